/-! printed by wip/whole/emit.py out of the claim's own listing -/
theorem dX11_isSharing_0 : ml_d cX11_isSharing 0 (.iconst 0) 1 1 := ⟨by decide +kernel, rfl⟩
theorem dX11_isSharing_1 : ml_d cX11_isSharing 1 (.istore_n 1) 1 2 := ⟨by decide +kernel, rfl⟩
theorem dX11_isSharing_2 : ml_d cX11_isSharing 2 (.iconst 0) 1 3 := ⟨by decide +kernel, rfl⟩
theorem dX11_isSharing_3 : ml_d cX11_isSharing 3 (.istore_n 2) 1 4 := ⟨by decide +kernel, rfl⟩
theorem dX11_isSharing_4 : ml_d cX11_isSharing 4 (.iload_n 2) 1 5 := ⟨by decide +kernel, rfl⟩
theorem dX11_isSharing_5 : ml_d cX11_isSharing 5 (.aload_n 0) 1 6 := ⟨by decide +kernel, rfl⟩
theorem dX11_isSharing_6 : ml_d cX11_isSharing 6 (.getfield 175) 3 9 := ⟨by decide +kernel, rfl⟩
theorem dX11_isSharing_9 : ml_j cX11_isSharing 9 (.if_icmp .ge) 29 12 := ⟨20, by decide +kernel, by decide, rfl⟩
theorem dX11_isSharing_12 : ml_d cX11_isSharing 12 (.iload_n 1) 1 13 := ⟨by decide +kernel, rfl⟩
theorem dX11_isSharing_13 : ml_d cX11_isSharing 13 (.iconst 1) 1 14 := ⟨by decide +kernel, rfl⟩
theorem dX11_isSharing_14 : ml_d cX11_isSharing 14 (.aload_n 0) 1 15 := ⟨by decide +kernel, rfl⟩
theorem dX11_isSharing_15 : ml_d cX11_isSharing 15 (.getfield 53) 3 18 := ⟨by decide +kernel, rfl⟩
theorem dX11_isSharing_18 : ml_d cX11_isSharing 18 (.iload_n 2) 1 19 := ⟨by decide +kernel, rfl⟩
theorem dX11_isSharing_19 : ml_d cX11_isSharing 19 (.iaload) 1 20 := ⟨by decide +kernel, rfl⟩
theorem dX11_isSharing_20 : ml_d cX11_isSharing 20 (.ishl) 1 21 := ⟨by decide +kernel, rfl⟩
theorem dX11_isSharing_21 : ml_d cX11_isSharing 21 (.ior) 1 22 := ⟨by decide +kernel, rfl⟩
theorem dX11_isSharing_22 : ml_d cX11_isSharing 22 (.istore_n 1) 1 23 := ⟨by decide +kernel, rfl⟩
theorem dX11_isSharing_23 : ml_d cX11_isSharing 23 (.iinc 2 1) 3 26 := ⟨by decide +kernel, rfl⟩
theorem dX11_isSharing_26 : ml_j cX11_isSharing 26 .goto 4 29 := ⟨(-22), by decide +kernel, by decide, rfl⟩
theorem dX11_isSharing_29 : ml_d cX11_isSharing 29 (.iconst 1) 1 30 := ⟨by decide +kernel, rfl⟩
theorem dX11_isSharing_30 : ml_d cX11_isSharing 30 (.istore_n 2) 1 31 := ⟨by decide +kernel, rfl⟩
theorem dX11_isSharing_31 : ml_d cX11_isSharing 31 (.iconst 0) 1 32 := ⟨by decide +kernel, rfl⟩
theorem dX11_isSharing_32 : ml_d cX11_isSharing 32 (.istore_n 3) 1 33 := ⟨by decide +kernel, rfl⟩
theorem dX11_isSharing_33 : ml_d cX11_isSharing 33 (.iload_n 3) 1 34 := ⟨by decide +kernel, rfl⟩
theorem dX11_isSharing_34 : ml_d cX11_isSharing 34 (.aload_n 0) 1 35 := ⟨by decide +kernel, rfl⟩
theorem dX11_isSharing_35 : ml_d cX11_isSharing 35 (.getfield 178) 3 38 := ⟨by decide +kernel, rfl⟩
theorem dX11_isSharing_38 : ml_j cX11_isSharing 38 (.if_icmp .ge) 106 41 := ⟨68, by decide +kernel, by decide, rfl⟩
theorem dX11_isSharing_41 : ml_d cX11_isSharing 41 (.iload_n 2) 1 42 := ⟨by decide +kernel, rfl⟩
theorem dX11_isSharing_42 : ml_j cX11_isSharing 42 (.ifCond .eq) 106 45 := ⟨64, by decide +kernel, by decide, rfl⟩
theorem dX11_isSharing_45 : ml_d cX11_isSharing 45 (.aload_n 0) 1 46 := ⟨by decide +kernel, rfl⟩
theorem dX11_isSharing_46 : ml_d cX11_isSharing 46 (.getfield 29) 3 49 := ⟨by decide +kernel, rfl⟩
theorem dX11_isSharing_49 : ml_d cX11_isSharing 49 (.iconst 5) 1 50 := ⟨by decide +kernel, rfl⟩
theorem dX11_isSharing_50 : ml_d cX11_isSharing 50 (.aload_n 0) 1 51 := ⟨by decide +kernel, rfl⟩
theorem dX11_isSharing_51 : ml_d cX11_isSharing 51 (.getfield 53) 3 54 := ⟨by decide +kernel, rfl⟩
theorem dX11_isSharing_54 : ml_d cX11_isSharing 54 (.aload_n 0) 1 55 := ⟨by decide +kernel, rfl⟩
theorem dX11_isSharing_55 : ml_d cX11_isSharing 55 (.getfield 35) 3 58 := ⟨by decide +kernel, rfl⟩
theorem dX11_isSharing_58 : ml_d cX11_isSharing 58 (.iconst 2) 1 59 := ⟨by decide +kernel, rfl⟩
theorem dX11_isSharing_59 : ml_d cX11_isSharing 59 (.iload_n 3) 1 60 := ⟨by decide +kernel, rfl⟩
theorem dX11_isSharing_60 : ml_d cX11_isSharing 60 (.imul) 1 61 := ⟨by decide +kernel, rfl⟩
theorem dX11_isSharing_61 : ml_d cX11_isSharing 61 (.iconst 1) 1 62 := ⟨by decide +kernel, rfl⟩
theorem dX11_isSharing_62 : ml_d cX11_isSharing 62 (.iadd) 1 63 := ⟨by decide +kernel, rfl⟩
theorem dX11_isSharing_63 : ml_d cX11_isSharing 63 (.iaload) 1 64 := ⟨by decide +kernel, rfl⟩
theorem dX11_isSharing_64 : ml_d cX11_isSharing 64 (.iaload) 1 65 := ⟨by decide +kernel, rfl⟩
theorem dX11_isSharing_65 : ml_d cX11_isSharing 65 (.imul) 1 66 := ⟨by decide +kernel, rfl⟩
theorem dX11_isSharing_66 : ml_d cX11_isSharing 66 (.iconst 1) 1 67 := ⟨by decide +kernel, rfl⟩
theorem dX11_isSharing_67 : ml_d cX11_isSharing 67 (.iadd) 1 68 := ⟨by decide +kernel, rfl⟩
theorem dX11_isSharing_68 : ml_d cX11_isSharing 68 (.iaload) 1 69 := ⟨by decide +kernel, rfl⟩
theorem dX11_isSharing_69 : ml_d cX11_isSharing 69 (.aload_n 0) 1 70 := ⟨by decide +kernel, rfl⟩
theorem dX11_isSharing_70 : ml_d cX11_isSharing 70 (.getfield 29) 3 73 := ⟨by decide +kernel, rfl⟩
theorem dX11_isSharing_73 : ml_d cX11_isSharing 73 (.iconst 5) 1 74 := ⟨by decide +kernel, rfl⟩
theorem dX11_isSharing_74 : ml_d cX11_isSharing 74 (.aload_n 0) 1 75 := ⟨by decide +kernel, rfl⟩
theorem dX11_isSharing_75 : ml_d cX11_isSharing 75 (.getfield 53) 3 78 := ⟨by decide +kernel, rfl⟩
theorem dX11_isSharing_78 : ml_d cX11_isSharing 78 (.aload_n 0) 1 79 := ⟨by decide +kernel, rfl⟩
theorem dX11_isSharing_79 : ml_d cX11_isSharing 79 (.getfield 35) 3 82 := ⟨by decide +kernel, rfl⟩
theorem dX11_isSharing_82 : ml_d cX11_isSharing 82 (.iconst 2) 1 83 := ⟨by decide +kernel, rfl⟩
theorem dX11_isSharing_83 : ml_d cX11_isSharing 83 (.iload_n 3) 1 84 := ⟨by decide +kernel, rfl⟩
theorem dX11_isSharing_84 : ml_d cX11_isSharing 84 (.imul) 1 85 := ⟨by decide +kernel, rfl⟩
theorem dX11_isSharing_85 : ml_d cX11_isSharing 85 (.iaload) 1 86 := ⟨by decide +kernel, rfl⟩
theorem dX11_isSharing_86 : ml_d cX11_isSharing 86 (.iaload) 1 87 := ⟨by decide +kernel, rfl⟩
theorem dX11_isSharing_87 : ml_d cX11_isSharing 87 (.imul) 1 88 := ⟨by decide +kernel, rfl⟩
theorem dX11_isSharing_88 : ml_d cX11_isSharing 88 (.iconst 1) 1 89 := ⟨by decide +kernel, rfl⟩
theorem dX11_isSharing_89 : ml_d cX11_isSharing 89 (.iadd) 1 90 := ⟨by decide +kernel, rfl⟩
theorem dX11_isSharing_90 : ml_d cX11_isSharing 90 (.iaload) 1 91 := ⟨by decide +kernel, rfl⟩
theorem dX11_isSharing_91 : ml_j cX11_isSharing 91 (.if_icmp .lt) 98 94 := ⟨7, by decide +kernel, by decide, rfl⟩
theorem dX11_isSharing_94 : ml_d cX11_isSharing 94 (.iconst 1) 1 95 := ⟨by decide +kernel, rfl⟩
theorem dX11_isSharing_95 : ml_j cX11_isSharing 95 .goto 99 98 := ⟨4, by decide +kernel, by decide, rfl⟩
theorem dX11_isSharing_98 : ml_d cX11_isSharing 98 (.iconst 0) 1 99 := ⟨by decide +kernel, rfl⟩
theorem dX11_isSharing_99 : ml_d cX11_isSharing 99 (.istore_n 2) 1 100 := ⟨by decide +kernel, rfl⟩
theorem dX11_isSharing_100 : ml_d cX11_isSharing 100 (.iinc 3 1) 3 103 := ⟨by decide +kernel, rfl⟩
theorem dX11_isSharing_103 : ml_j cX11_isSharing 103 .goto 33 106 := ⟨(-70), by decide +kernel, by decide, rfl⟩
theorem dX11_isSharing_106 : ml_d cX11_isSharing 106 (.iload_n 2) 1 107 := ⟨by decide +kernel, rfl⟩
theorem dX11_isSharing_107 : ml_j cX11_isSharing 107 (.ifCond .eq) 122 110 := ⟨15, by decide +kernel, by decide, rfl⟩
theorem dX11_isSharing_110 : ml_d cX11_isSharing 110 (.aload_n 0) 1 111 := ⟨by decide +kernel, rfl⟩
theorem dX11_isSharing_111 : ml_d cX11_isSharing 111 (.iload_n 1) 1 112 := ⟨by decide +kernel, rfl⟩
theorem dX11_isSharing_112 : ml_d cX11_isSharing 112 (.invokevirtual 248) 3 115 := ⟨by decide +kernel, rfl⟩
theorem dX11_isSharing_115 : ml_j cX11_isSharing 115 (.ifCond .eq) 122 118 := ⟨7, by decide +kernel, by decide, rfl⟩
theorem dX11_isSharing_118 : ml_d cX11_isSharing 118 (.iconst 1) 1 119 := ⟨by decide +kernel, rfl⟩
theorem dX11_isSharing_119 : ml_j cX11_isSharing 119 .goto 123 122 := ⟨4, by decide +kernel, by decide, rfl⟩
theorem dX11_isSharing_122 : ml_d cX11_isSharing 122 (.iconst 0) 1 123 := ⟨by decide +kernel, rfl⟩
theorem dX11_isSharing_123 : ml_d cX11_isSharing 123 (.ireturn) 1 124 := ⟨by decide +kernel, rfl⟩
def fX11_isSharing_99 (k33 : Nat → Int32 → Int32 → Int32 → ml_M → Option Int32) (l0 : Nat) (l1 : Int32) (l3 : Int32) (t0 : Int32) (m : ml_M) : Option Int32 :=
    k33 l0 l1 t0 (l3 + (1 : Int32)) m
theorem vX11_isSharing_99 {E : ml_E} (hL : ml_eL E = 4) {rv : Int32} {m : ml_M} (hr : ∀ (pc pc' : Nat) (lv : List (Nat × ml_X)), ml_d cX11_isSharing pc .ireturn 1 pc' → (rv = 0 ∨ rv = 1) → ml_V E "LostRoomModel" cX11_isSharing 6 false m pc lv [ml_i rv]) {k33 : Nat → Int32 → Int32 → Int32 → ml_M → Option Int32} (hk33 : ∀ (l0 : Nat) (l1 : Int32) (l2 : Int32) (l3 : Int32), k33 l0 l1 l2 l3 m = some rv → ml_V E "LostRoomModel" cX11_isSharing 6 false m 33 [(0, ml_r l0), (1, ml_i l1), (2, ml_i l2), (3, ml_i l3)] []) : ∀ (l0 : Nat) (l1 : Int32) (l3 : Int32) (t0 : Int32), fX11_isSharing_99 k33 l0 l1 l3 t0 m = some rv → ml_V E "LostRoomModel" cX11_isSharing 6 false m 99 [(0, ml_r l0), (1, ml_i l1), (3, ml_i l3)] [ml_i t0] := by
  intro l0 l1 l3 t0 h
  unfold fX11_isSharing_99 at h
  exact ml_istore_n (lv' := [(2, ml_i t0), (0, ml_r l0), (1, ml_i l1), (3, ml_i l3)]) dX11_isSharing_99 (ml_hn hL rfl) rfl <| ml_iinc (lv' := [(3, ml_i (l3 + (1 : Int32))), (2, ml_i t0), (0, ml_r l0), (1, ml_i l1)]) dX11_isSharing_100 3 rfl (congrArg (l3 + ·) kc_i1) (ml_hn hL rfl) rfl <| ml_goto dX11_isSharing_103 <| ml_V.sub [2, 3, 1, 0] rfl (hk33 _ _ _ _ h)
def fX11_isSharing_106 (l0 : Nat) (l1 : Int32) (l2 : Int32) (m : ml_M) : Option Int32 :=
    if l2 = 0 then
    some (0 : Int32)
    else
    if (ml_K m l0).1 = 11 then
    ml_b1 (fX11_coversAll l0 l1 m) fun r2410 =>
    if r2410 = 0 then
    some (0 : Int32)
    else
    some (1 : Int32)
    else none
theorem vX11_isSharing_106 {E : ml_E} (hL : ml_eL E = 4) {rv : Int32} {m : ml_M} (hr : ∀ (pc pc' : Nat) (lv : List (Nat × ml_X)), ml_d cX11_isSharing pc .ireturn 1 pc' → (rv = 0 ∨ rv = 1) → ml_V E "LostRoomModel" cX11_isSharing 6 false m pc lv [ml_i rv]) : ∀ (l0 : Nat) (l1 : Int32) (l2 : Int32), fX11_isSharing_106 l0 l1 l2 m = some rv → ml_V E "LostRoomModel" cX11_isSharing 6 false m 106 [(0, ml_r l0), (1, ml_i l1), (2, ml_i l2)] [] := by
  intro l0 l1 l2 h
  unfold fX11_isSharing_106 at h
  exact ml_iload_n dX11_isSharing_106 2 rfl <| ml_if_eq dX11_isSharing_107 h (fun _ h => ml_iconst dX11_isSharing_122 kc_i0 <| ml_rp (mk := ml_i) hr dX11_isSharing_123 (fun e => Or.inl e.symm) h) (fun _ h => ml_aload_n dX11_isSharing_110 0 rfl <| ml_iload_n dX11_isSharing_111 1 rfl <| ml_ck_of h fun hc2409 h => ml_b1_of h fun r2410 hv2408 h => ml_callV dX11_isSharing_112 wm_466 wb_289 hc2409 (sX11_coversAll hv2408) rfl (Nat.le_of_ble_eq_true rfl) (Nat.le_of_ble_eq_true rfl) rfl <| ml_if_eq dX11_isSharing_115 h (fun _ h => ml_iconst dX11_isSharing_122 kc_i0 <| ml_rp (mk := ml_i) hr dX11_isSharing_123 (fun e => Or.inl e.symm) h) (fun _ h => ml_iconst dX11_isSharing_118 kc_i1 <| ml_goto dX11_isSharing_119 <| ml_rp (mk := ml_i) hr dX11_isSharing_123 (fun e => Or.inr e.symm) h))
def fX11_isSharing_33 : Nat → Nat → Int32 → Int32 → Int32 → ml_M → Option Int32
  | 0, _, _, _, _, _ => none
  | fu + 1, l0, l1, l2, l3, m =>
    if (ml_K m l0).1 = 11 then
    if (ml_I m l0 11) ≤ l3 then
    fX11_isSharing_106 l0 l1 l2 m
    else
    if l2 = 0 then
    fX11_isSharing_106 l0 l1 l2 m
    else
    ml_let (ml_R m l0 12) fun a2412 =>
    ml_let (ml_R m l0 27) fun a2413 =>
    ml_let (ml_R m l0 14) fun a2414 =>
    if ml_in m a2414 20 (((2 : Int32) * l3) + (1 : Int32)) then
    if ml_in m a2413 20 (ml_I m a2414 (((2 : Int32) * l3) + (1 : Int32)).toNatClampNeg) then
    if ml_in m a2412 20 (((5 : Int32) * (ml_I m a2413 (ml_I m a2414 (((2 : Int32) * l3) + (1 : Int32)).toNatClampNeg).toNatClampNeg)) + (1 : Int32)) then
    ml_let (ml_R m l0 12) fun a2418 =>
    ml_let (ml_R m l0 27) fun a2419 =>
    ml_let (ml_R m l0 14) fun a2420 =>
    if ml_in m a2420 20 ((2 : Int32) * l3) then
    if ml_in m a2419 20 (ml_I m a2420 ((2 : Int32) * l3).toNatClampNeg) then
    if ml_in m a2418 20 (((5 : Int32) * (ml_I m a2419 (ml_I m a2420 ((2 : Int32) * l3).toNatClampNeg).toNatClampNeg)) + (1 : Int32)) then
    if (ml_I m a2412 (((5 : Int32) * (ml_I m a2413 (ml_I m a2414 (((2 : Int32) * l3) + (1 : Int32)).toNatClampNeg).toNatClampNeg)) + (1 : Int32)).toNatClampNeg) < (ml_I m a2418 (((5 : Int32) * (ml_I m a2419 (ml_I m a2420 ((2 : Int32) * l3).toNatClampNeg).toNatClampNeg)) + (1 : Int32)).toNatClampNeg) then
    fX11_isSharing_99 (fX11_isSharing_33 fu) l0 l1 l3 (0 : Int32) m
    else
    fX11_isSharing_99 (fX11_isSharing_33 fu) l0 l1 l3 (1 : Int32) m
    else none
    else none
    else none
    else none
    else none
    else none
    else none
theorem vX11_isSharing_33 {E : ml_E} (hL : ml_eL E = 4) {rv : Int32} {m : ml_M} (hr : ∀ (pc pc' : Nat) (lv : List (Nat × ml_X)), ml_d cX11_isSharing pc .ireturn 1 pc' → (rv = 0 ∨ rv = 1) → ml_V E "LostRoomModel" cX11_isSharing 6 false m pc lv [ml_i rv]) : ∀ (fu : Nat) (l0 : Nat) (l1 : Int32) (l2 : Int32) (l3 : Int32), fX11_isSharing_33 fu l0 l1 l2 l3 m = some rv → ml_V E "LostRoomModel" cX11_isSharing 6 false m 33 [(0, ml_r l0), (1, ml_i l1), (2, ml_i l2), (3, ml_i l3)] [] := by
  intro fu
  induction fu with
  | zero => intro l0 l1 l2 l3 h; exact ml_none h
  | succ fu ih =>
    intro l0 l1 l2 l3 h
    have hk33 := ih
    unfold fX11_isSharing_33 at h
    exact ml_iload_n dX11_isSharing_33 3 rfl <| ml_aload_n dX11_isSharing_34 0 rfl <| ml_ck_of h fun hc2411 h => ml_getI dX11_isSharing_35 wb_231 hc2411 <| ml_icmp_ge dX11_isSharing_38 h (fun _ h => ml_V.sub [0, 1, 2] rfl (vX11_isSharing_106 hL hr  _ _ _ h)) (fun _ h => ml_iload_n dX11_isSharing_41 2 rfl <| ml_if_eq dX11_isSharing_42 h (fun _ h => ml_V.sub [0, 1, 2] rfl (vX11_isSharing_106 hL hr  _ _ _ h)) (fun _ h => ml_aload_n dX11_isSharing_45 0 rfl <| ml_getR dX11_isSharing_46 wb_197 hc2411 <| ml_lx (mk := ml_r) h fun a2412 h => ml_iconst dX11_isSharing_49 kc_i5 <| ml_aload_n dX11_isSharing_50 0 rfl <| ml_getR dX11_isSharing_51 wb_352 hc2411 <| ml_lx (mk := ml_r) h fun a2413 h => ml_aload_n dX11_isSharing_54 0 rfl <| ml_getR dX11_isSharing_55 wb_191 hc2411 <| ml_lx (mk := ml_r) h fun a2414 h => ml_iconst dX11_isSharing_58 kc_i2 <| ml_iload_n dX11_isSharing_59 3 rfl <| ml_imul dX11_isSharing_60 <| ml_iconst dX11_isSharing_61 kc_i1 <| ml_iadd dX11_isSharing_62 <| ml_ck_of h fun hi2415 h => ml_iald dX11_isSharing_63 hi2415 <| ml_ck_of h fun hi2416 h => ml_iald dX11_isSharing_64 hi2416 <| ml_imul dX11_isSharing_65 <| ml_iconst dX11_isSharing_66 kc_i1 <| ml_iadd dX11_isSharing_67 <| ml_ck_of h fun hi2417 h => ml_iald dX11_isSharing_68 hi2417 <| ml_aload_n dX11_isSharing_69 0 rfl <| ml_getR dX11_isSharing_70 wb_197 hc2411 <| ml_lx (mk := ml_r) h fun a2418 h => ml_iconst dX11_isSharing_73 kc_i5 <| ml_aload_n dX11_isSharing_74 0 rfl <| ml_getR dX11_isSharing_75 wb_352 hc2411 <| ml_lx (mk := ml_r) h fun a2419 h => ml_aload_n dX11_isSharing_78 0 rfl <| ml_getR dX11_isSharing_79 wb_191 hc2411 <| ml_lx (mk := ml_r) h fun a2420 h => ml_iconst dX11_isSharing_82 kc_i2 <| ml_iload_n dX11_isSharing_83 3 rfl <| ml_imul dX11_isSharing_84 <| ml_ck_of h fun hi2421 h => ml_iald dX11_isSharing_85 hi2421 <| ml_ck_of h fun hi2422 h => ml_iald dX11_isSharing_86 hi2422 <| ml_imul dX11_isSharing_87 <| ml_iconst dX11_isSharing_88 kc_i1 <| ml_iadd dX11_isSharing_89 <| ml_ck_of h fun hi2423 h => ml_iald dX11_isSharing_90 hi2423 <| ml_icmp_lt dX11_isSharing_91 h (fun _ h => ml_iconst dX11_isSharing_98 kc_i0 <| ml_V.sub [0, 1, 3] rfl (vX11_isSharing_99 hL hr hk33 _ _ _ _ h)) (fun _ h => ml_iconst dX11_isSharing_94 kc_i1 <| ml_goto dX11_isSharing_95 <| ml_V.sub [0, 1, 3] rfl (vX11_isSharing_99 hL hr hk33 _ _ _ _ h))))
def fX11_isSharing_29 (l0 : Nat) (l1 : Int32) (m : ml_M) : Option Int32 :=
    fX11_isSharing_33 ml_fu l0 l1 (1 : Int32) (0 : Int32) m
theorem vX11_isSharing_29 {E : ml_E} (hL : ml_eL E = 4) {rv : Int32} {m : ml_M} (hr : ∀ (pc pc' : Nat) (lv : List (Nat × ml_X)), ml_d cX11_isSharing pc .ireturn 1 pc' → (rv = 0 ∨ rv = 1) → ml_V E "LostRoomModel" cX11_isSharing 6 false m pc lv [ml_i rv]) : ∀ (l0 : Nat) (l1 : Int32), fX11_isSharing_29 l0 l1 m = some rv → ml_V E "LostRoomModel" cX11_isSharing 6 false m 29 [(0, ml_r l0), (1, ml_i l1)] [] := by
  intro l0 l1 h
  unfold fX11_isSharing_29 at h
  exact ml_iconst dX11_isSharing_29 kc_i1 <| ml_istore_n (lv' := [(2, ml_i (1 : Int32)), (0, ml_r l0), (1, ml_i l1)]) dX11_isSharing_30 (ml_hn hL rfl) rfl <| ml_iconst dX11_isSharing_31 kc_i0 <| ml_istore_n (lv' := [(3, ml_i (0 : Int32)), (2, ml_i (1 : Int32)), (0, ml_r l0), (1, ml_i l1)]) dX11_isSharing_32 (ml_hn hL rfl) rfl <| ml_V.sub [2, 3, 1, 0] rfl (vX11_isSharing_33 hL hr  ml_fu _ _ _ _ h)
def fX11_isSharing_4 : Nat → Nat → Int32 → Int32 → ml_M → Option Int32
  | 0, _, _, _, _ => none
  | fu + 1, l0, l1, l2, m =>
    if (ml_K m l0).1 = 11 then
    if (ml_I m l0 10) ≤ l2 then
    fX11_isSharing_29 l0 l1 m
    else
    ml_let (ml_R m l0 27) fun a2425 =>
    if ml_in m a2425 20 l2 then
    ml_let (l1 ||| ((1 : Int32) <<< ((ml_I m a2425 l2.toNatClampNeg) &&& 31))) fun x2427 =>
    (fX11_isSharing_4 fu) l0 x2427 (l2 + (1 : Int32)) m
    else none
    else none
theorem vX11_isSharing_4 {E : ml_E} (hL : ml_eL E = 4) {rv : Int32} {m : ml_M} (hr : ∀ (pc pc' : Nat) (lv : List (Nat × ml_X)), ml_d cX11_isSharing pc .ireturn 1 pc' → (rv = 0 ∨ rv = 1) → ml_V E "LostRoomModel" cX11_isSharing 6 false m pc lv [ml_i rv]) : ∀ (fu : Nat) (l0 : Nat) (l1 : Int32) (l2 : Int32), fX11_isSharing_4 fu l0 l1 l2 m = some rv → ml_V E "LostRoomModel" cX11_isSharing 6 false m 4 [(0, ml_r l0), (1, ml_i l1), (2, ml_i l2)] [] := by
  intro fu
  induction fu with
  | zero => intro l0 l1 l2 h; exact ml_none h
  | succ fu ih =>
    intro l0 l1 l2 h
    have hk4 := ih
    unfold fX11_isSharing_4 at h
    exact ml_iload_n dX11_isSharing_4 2 rfl <| ml_aload_n dX11_isSharing_5 0 rfl <| ml_ck_of h fun hc2424 h => ml_getI dX11_isSharing_6 wb_196 hc2424 <| ml_icmp_ge dX11_isSharing_9 h (fun _ h => ml_V.sub [0, 1] rfl (vX11_isSharing_29 hL hr  _ _ h)) (fun _ h => ml_iload_n dX11_isSharing_12 1 rfl <| ml_iconst dX11_isSharing_13 kc_i1 <| ml_aload_n dX11_isSharing_14 0 rfl <| ml_getR dX11_isSharing_15 wb_352 hc2424 <| ml_lx (mk := ml_r) h fun a2425 h => ml_iload_n dX11_isSharing_18 2 rfl <| ml_ck_of h fun hi2426 h => ml_iald dX11_isSharing_19 hi2426 <| ml_ishl dX11_isSharing_20 <| ml_ior dX11_isSharing_21 <| ml_lx (mk := ml_i) h fun x2427 h => ml_istore_n (lv' := [(1, ml_i x2427), (0, ml_r l0), (2, ml_i l2)]) dX11_isSharing_22 (ml_hn hL rfl) rfl <| ml_iinc (lv' := [(2, ml_i (l2 + (1 : Int32))), (1, ml_i x2427), (0, ml_r l0)]) dX11_isSharing_23 2 rfl (congrArg (l2 + ·) kc_i1) (ml_hn hL rfl) rfl <| ml_goto dX11_isSharing_26 <| ml_V.sub [2, 1, 0] rfl (hk4 _ _ _ h))
def fX11_isSharing (l0 : Nat) (m : ml_M) : Option Int32 :=
    fX11_isSharing_4 ml_fu l0 (0 : Int32) (0 : Int32) m
theorem wX11_isSharing_0 {E : ml_E} (hL : ml_eL E = 4) {rv : Int32} {m : ml_M} (hr : ∀ (pc pc' : Nat) (lv : List (Nat × ml_X)), ml_d cX11_isSharing pc .ireturn 1 pc' → (rv = 0 ∨ rv = 1) → ml_V E "LostRoomModel" cX11_isSharing 6 false m pc lv [ml_i rv]) : ∀ (l0 : Nat), fX11_isSharing l0 m = some rv → ml_V E "LostRoomModel" cX11_isSharing 6 false m 0 [(0, ml_r l0)] [] := by
  intro l0 h
  unfold fX11_isSharing at h
  exact ml_iconst dX11_isSharing_0 kc_i0 <| ml_istore_n (lv' := [(1, ml_i (0 : Int32)), (0, ml_r l0)]) dX11_isSharing_1 (ml_hn hL rfl) rfl <| ml_iconst dX11_isSharing_2 kc_i0 <| ml_istore_n (lv' := [(2, ml_i (0 : Int32)), (1, ml_i (0 : Int32)), (0, ml_r l0)]) dX11_isSharing_3 (ml_hn hL rfl) rfl <| ml_V.sub [2, 1, 0] rfl (vX11_isSharing_4 hL hr  ml_fu _ _ _ h)
theorem sX11_isSharing {l0 : Nat} {m : ml_M} {rv : Int32} (h : fX11_isSharing l0 m = some rv) : ml_Sn yX11_isSharing cX11_isSharing 4 (some .boolean) 6 [ml_r l0] m (some (ml_i rv)) m :=
  ml_Sn_of (P := (rv = 0 ∨ rv = 1)) (ini := false) (by decide +kernel) (Nat.le_of_ble_eq_true rfl) (fun h => by cases h) (fun hz => ml_RkZ rv hz) fun E hL hr => wX11_isSharing_0 hL hr _ h
theorem dX11_isMoved_0 : ml_d cX11_isMoved 0 (.aload_n 0) 1 1 := ⟨by decide +kernel, rfl⟩
theorem dX11_isMoved_1 : ml_d cX11_isMoved 1 (.iload_n 1) 1 2 := ⟨by decide +kernel, rfl⟩
theorem dX11_isMoved_2 : ml_d cX11_isMoved 2 (.invokevirtual 205) 3 5 := ⟨by decide +kernel, rfl⟩
theorem dX11_isMoved_5 : ml_d cX11_isMoved 5 (.bipush (-9)) 2 7 := ⟨by decide +kernel, rfl⟩
theorem dX11_isMoved_7 : ml_j cX11_isMoved 7 (.if_icmp .eq) 32 10 := ⟨25, by decide +kernel, by decide, rfl⟩
theorem dX11_isMoved_10 : ml_d cX11_isMoved 10 (.aload_n 0) 1 11 := ⟨by decide +kernel, rfl⟩
theorem dX11_isMoved_11 : ml_d cX11_isMoved 11 (.aload_n 0) 1 12 := ⟨by decide +kernel, rfl⟩
theorem dX11_isMoved_12 : ml_d cX11_isMoved 12 (.getfield 53) 3 15 := ⟨by decide +kernel, rfl⟩
theorem dX11_isMoved_15 : ml_d cX11_isMoved 15 (.aload_n 0) 1 16 := ⟨by decide +kernel, rfl⟩
theorem dX11_isMoved_16 : ml_d cX11_isMoved 16 (.iload_n 1) 1 17 := ⟨by decide +kernel, rfl⟩
theorem dX11_isMoved_17 : ml_d cX11_isMoved 17 (.invokevirtual 205) 3 20 := ⟨by decide +kernel, rfl⟩
theorem dX11_isMoved_20 : ml_d cX11_isMoved 20 (.iaload) 1 21 := ⟨by decide +kernel, rfl⟩
theorem dX11_isMoved_21 : ml_d cX11_isMoved 21 (.iload_n 1) 1 22 := ⟨by decide +kernel, rfl⟩
theorem dX11_isMoved_22 : ml_d cX11_isMoved 22 (.invokevirtual 242) 3 25 := ⟨by decide +kernel, rfl⟩
theorem dX11_isMoved_25 : ml_j cX11_isMoved 25 (.ifCond .ne) 32 28 := ⟨7, by decide +kernel, by decide, rfl⟩
theorem dX11_isMoved_28 : ml_d cX11_isMoved 28 (.iconst 1) 1 29 := ⟨by decide +kernel, rfl⟩
theorem dX11_isMoved_29 : ml_j cX11_isMoved 29 .goto 33 32 := ⟨4, by decide +kernel, by decide, rfl⟩
theorem dX11_isMoved_32 : ml_d cX11_isMoved 32 (.iconst 0) 1 33 := ⟨by decide +kernel, rfl⟩
theorem dX11_isMoved_33 : ml_d cX11_isMoved 33 (.ireturn) 1 34 := ⟨by decide +kernel, rfl⟩
def fX11_isMoved (l0 : Nat) (l1 : Int32) (m : ml_M) : Option Int32 :=
    if (ml_K m l0).1 = 11 then
    ml_b1 (fX11_trunkOf l0 l1 m) fun r2430 =>
    if r2430 = (-9 : Int32) then
    some (0 : Int32)
    else
    ml_let (ml_R m l0 27) fun a2431 =>
    ml_b1 (fX11_trunkOf l0 l1 m) fun r2433 =>
    if ml_in m a2431 20 r2433 then
    ml_b1 (fX11_mayHave l0 (ml_I m a2431 r2433.toNatClampNeg) l1 m) fun r2436 =>
    if r2436 = 0 then
    some (1 : Int32)
    else
    some (0 : Int32)
    else none
    else none
theorem wX11_isMoved_0 {E : ml_E} (hL : ml_eL E = 2) {rv : Int32} {m : ml_M} (hr : ∀ (pc pc' : Nat) (lv : List (Nat × ml_X)), ml_d cX11_isMoved pc .ireturn 1 pc' → (rv = 0 ∨ rv = 1) → ml_V E "LostRoomModel" cX11_isMoved 4 false m pc lv [ml_i rv]) : ∀ (l0 : Nat) (l1 : Int32), fX11_isMoved l0 l1 m = some rv → ml_V E "LostRoomModel" cX11_isMoved 4 false m 0 [(0, ml_r l0), (1, ml_i l1)] [] := by
  intro l0 l1 h
  unfold fX11_isMoved at h
  exact ml_aload_n dX11_isMoved_0 0 rfl <| ml_iload_n dX11_isMoved_1 1 rfl <| ml_ck_of h fun hc2429 h => ml_b1_of h fun r2430 hv2428 h => ml_callV dX11_isMoved_2 wm_325 wb_229 hc2429 (sX11_trunkOf hv2428) rfl (Nat.le_of_ble_eq_true rfl) (Nat.le_of_ble_eq_true rfl) rfl <| ml_bipush dX11_isMoved_5 kc_bm9 <| ml_icmp_eq dX11_isMoved_7 h (fun _ h => ml_iconst dX11_isMoved_32 kc_i0 <| ml_rp (mk := ml_i) hr dX11_isMoved_33 (fun e => Or.inl e.symm) h) (fun _ h => ml_aload_n dX11_isMoved_10 0 rfl <| ml_aload_n dX11_isMoved_11 0 rfl <| ml_getR dX11_isMoved_12 wb_352 hc2429 <| ml_lx (mk := ml_r) h fun a2431 h => ml_aload_n dX11_isMoved_15 0 rfl <| ml_iload_n dX11_isMoved_16 1 rfl <| ml_b1_of h fun r2433 hv2432 h => ml_callV dX11_isMoved_17 wm_325 wb_229 hc2429 (sX11_trunkOf hv2432) rfl (Nat.le_of_ble_eq_true rfl) (Nat.le_of_ble_eq_true rfl) rfl <| ml_ck_of h fun hi2434 h => ml_iald dX11_isMoved_20 hi2434 <| ml_iload_n dX11_isMoved_21 1 rfl <| ml_b1_of h fun r2436 hv2435 h => ml_callV dX11_isMoved_22 wm_447 wb_284 hc2429 (sX11_mayHave hv2435) rfl (Nat.le_of_ble_eq_true rfl) (Nat.le_of_ble_eq_true rfl) rfl <| ml_if_ne dX11_isMoved_25 h (fun _ h => ml_iconst dX11_isMoved_32 kc_i0 <| ml_rp (mk := ml_i) hr dX11_isMoved_33 (fun e => Or.inl e.symm) h) (fun _ h => ml_iconst dX11_isMoved_28 kc_i1 <| ml_goto dX11_isMoved_29 <| ml_rp (mk := ml_i) hr dX11_isMoved_33 (fun e => Or.inr e.symm) h))
theorem sX11_isMoved {l0 : Nat} {l1 : Int32} {m : ml_M} {rv : Int32} (h : fX11_isMoved l0 l1 m = some rv) : ml_Sn yX11_isMoved cX11_isMoved 2 (some .boolean) 4 [ml_r l0, ml_i l1] m (some (ml_i rv)) m :=
  ml_Sn_of (P := (rv = 0 ∨ rv = 1)) (ini := false) (by decide +kernel) (Nat.le_of_ble_eq_true rfl) (fun h => by cases h) (fun hz => ml_RkZ rv hz) fun E hL hr => wX11_isMoved_0 hL hr _ _ h
theorem dX11_movedMany_0 : ml_d cX11_movedMany 0 (.iconst 0) 1 1 := ⟨by decide +kernel, rfl⟩
theorem dX11_movedMany_1 : ml_d cX11_movedMany 1 (.istore_n 1) 1 2 := ⟨by decide +kernel, rfl⟩
theorem dX11_movedMany_2 : ml_d cX11_movedMany 2 (.iconst 0) 1 3 := ⟨by decide +kernel, rfl⟩
theorem dX11_movedMany_3 : ml_d cX11_movedMany 3 (.istore_n 2) 1 4 := ⟨by decide +kernel, rfl⟩
theorem dX11_movedMany_4 : ml_d cX11_movedMany 4 (.iload_n 2) 1 5 := ⟨by decide +kernel, rfl⟩
theorem dX11_movedMany_5 : ml_d cX11_movedMany 5 (.aload_n 0) 1 6 := ⟨by decide +kernel, rfl⟩
theorem dX11_movedMany_6 : ml_d cX11_movedMany 6 (.getfield 181) 3 9 := ⟨by decide +kernel, rfl⟩
theorem dX11_movedMany_9 : ml_j cX11_movedMany 9 (.if_icmp .ge) 34 12 := ⟨25, by decide +kernel, by decide, rfl⟩
theorem dX11_movedMany_12 : ml_d cX11_movedMany 12 (.iload_n 1) 1 13 := ⟨by decide +kernel, rfl⟩
theorem dX11_movedMany_13 : ml_d cX11_movedMany 13 (.aload_n 0) 1 14 := ⟨by decide +kernel, rfl⟩
theorem dX11_movedMany_14 : ml_d cX11_movedMany 14 (.iload_n 2) 1 15 := ⟨by decide +kernel, rfl⟩
theorem dX11_movedMany_15 : ml_d cX11_movedMany 15 (.invokevirtual 283) 3 18 := ⟨by decide +kernel, rfl⟩
theorem dX11_movedMany_18 : ml_j cX11_movedMany 18 (.ifCond .eq) 25 21 := ⟨7, by decide +kernel, by decide, rfl⟩
theorem dX11_movedMany_21 : ml_d cX11_movedMany 21 (.iconst 1) 1 22 := ⟨by decide +kernel, rfl⟩
theorem dX11_movedMany_22 : ml_j cX11_movedMany 22 .goto 26 25 := ⟨4, by decide +kernel, by decide, rfl⟩
theorem dX11_movedMany_25 : ml_d cX11_movedMany 25 (.iconst 0) 1 26 := ⟨by decide +kernel, rfl⟩
theorem dX11_movedMany_26 : ml_d cX11_movedMany 26 (.iadd) 1 27 := ⟨by decide +kernel, rfl⟩
theorem dX11_movedMany_27 : ml_d cX11_movedMany 27 (.istore_n 1) 1 28 := ⟨by decide +kernel, rfl⟩
theorem dX11_movedMany_28 : ml_d cX11_movedMany 28 (.iinc 2 1) 3 31 := ⟨by decide +kernel, rfl⟩
theorem dX11_movedMany_31 : ml_j cX11_movedMany 31 .goto 4 34 := ⟨(-27), by decide +kernel, by decide, rfl⟩
theorem dX11_movedMany_34 : ml_d cX11_movedMany 34 (.iload_n 1) 1 35 := ⟨by decide +kernel, rfl⟩
theorem dX11_movedMany_35 : ml_d cX11_movedMany 35 (.ireturn) 1 36 := ⟨by decide +kernel, rfl⟩
def fX11_movedMany_26 (k4 : Nat → Int32 → Int32 → ml_M → Option Int32) (l0 : Nat) (l2 : Int32) (t0 : Int32) (t1 : Int32) (m : ml_M) : Option Int32 :=
    ml_let (t1 + t0) fun x2437 =>
    k4 l0 x2437 (l2 + (1 : Int32)) m
theorem vX11_movedMany_26 {E : ml_E} (hL : ml_eL E = 3) {rv : Int32} {m : ml_M} (hr : ∀ (pc pc' : Nat) (lv : List (Nat × ml_X)), ml_d cX11_movedMany pc .ireturn 1 pc' → True → ml_V E "LostRoomModel" cX11_movedMany 5 false m pc lv [ml_i rv]) {k4 : Nat → Int32 → Int32 → ml_M → Option Int32} (hk4 : ∀ (l0 : Nat) (l1 : Int32) (l2 : Int32), k4 l0 l1 l2 m = some rv → ml_V E "LostRoomModel" cX11_movedMany 5 false m 4 [(0, ml_r l0), (1, ml_i l1), (2, ml_i l2)] []) : ∀ (l0 : Nat) (l2 : Int32) (t0 : Int32) (t1 : Int32), fX11_movedMany_26 k4 l0 l2 t0 t1 m = some rv → ml_V E "LostRoomModel" cX11_movedMany 5 false m 26 [(0, ml_r l0), (2, ml_i l2)] [ml_i t0, ml_i t1] := by
  intro l0 l2 t0 t1 h
  unfold fX11_movedMany_26 at h
  exact ml_iadd dX11_movedMany_26 <| ml_lx (mk := ml_i) h fun x2437 h => ml_istore_n (lv' := [(1, ml_i x2437), (0, ml_r l0), (2, ml_i l2)]) dX11_movedMany_27 (ml_hn hL rfl) rfl <| ml_iinc (lv' := [(2, ml_i (l2 + (1 : Int32))), (1, ml_i x2437), (0, ml_r l0)]) dX11_movedMany_28 2 rfl (congrArg (l2 + ·) kc_i1) (ml_hn hL rfl) rfl <| ml_goto dX11_movedMany_31 <| ml_V.sub [2, 1, 0] rfl (hk4 _ _ _ h)
def fX11_movedMany_4 : Nat → Nat → Int32 → Int32 → ml_M → Option Int32
  | 0, _, _, _, _ => none
  | fu + 1, l0, l1, l2, m =>
    if (ml_K m l0).1 = 11 then
    if (ml_I m l0 24) ≤ l2 then
    some l1
    else
    ml_b1 (fX11_isMoved l0 l2 m) fun r2440 =>
    if r2440 = 0 then
    fX11_movedMany_26 (fX11_movedMany_4 fu) l0 l2 (0 : Int32) l1 m
    else
    fX11_movedMany_26 (fX11_movedMany_4 fu) l0 l2 (1 : Int32) l1 m
    else none
theorem vX11_movedMany_4 {E : ml_E} (hL : ml_eL E = 3) {rv : Int32} {m : ml_M} (hr : ∀ (pc pc' : Nat) (lv : List (Nat × ml_X)), ml_d cX11_movedMany pc .ireturn 1 pc' → True → ml_V E "LostRoomModel" cX11_movedMany 5 false m pc lv [ml_i rv]) : ∀ (fu : Nat) (l0 : Nat) (l1 : Int32) (l2 : Int32), fX11_movedMany_4 fu l0 l1 l2 m = some rv → ml_V E "LostRoomModel" cX11_movedMany 5 false m 4 [(0, ml_r l0), (1, ml_i l1), (2, ml_i l2)] [] := by
  intro fu
  induction fu with
  | zero => intro l0 l1 l2 h; exact ml_none h
  | succ fu ih =>
    intro l0 l1 l2 h
    have hk4 := ih
    unfold fX11_movedMany_4 at h
    exact ml_iload_n dX11_movedMany_4 2 rfl <| ml_aload_n dX11_movedMany_5 0 rfl <| ml_ck_of h fun hc2438 h => ml_getI dX11_movedMany_6 wb_228 hc2438 <| ml_icmp_ge dX11_movedMany_9 h (fun _ h => ml_iload_n dX11_movedMany_34 1 rfl <| ml_rp (mk := ml_i) hr dX11_movedMany_35 (fun _ => trivial) h) (fun _ h => ml_iload_n dX11_movedMany_12 1 rfl <| ml_aload_n dX11_movedMany_13 0 rfl <| ml_iload_n dX11_movedMany_14 2 rfl <| ml_b1_of h fun r2440 hv2439 h => ml_callV dX11_movedMany_15 wm_587 wb_356 hc2438 (sX11_isMoved hv2439) rfl (Nat.le_of_ble_eq_true rfl) (Nat.le_of_ble_eq_true rfl) rfl <| ml_if_eq dX11_movedMany_18 h (fun _ h => ml_iconst dX11_movedMany_25 kc_i0 <| ml_V.sub [0, 2] rfl (vX11_movedMany_26 hL hr hk4 _ _ _ _ h)) (fun _ h => ml_iconst dX11_movedMany_21 kc_i1 <| ml_goto dX11_movedMany_22 <| ml_V.sub [0, 2] rfl (vX11_movedMany_26 hL hr hk4 _ _ _ _ h)))
def fX11_movedMany (l0 : Nat) (m : ml_M) : Option Int32 :=
    fX11_movedMany_4 ml_fu l0 (0 : Int32) (0 : Int32) m
theorem wX11_movedMany_0 {E : ml_E} (hL : ml_eL E = 3) {rv : Int32} {m : ml_M} (hr : ∀ (pc pc' : Nat) (lv : List (Nat × ml_X)), ml_d cX11_movedMany pc .ireturn 1 pc' → True → ml_V E "LostRoomModel" cX11_movedMany 5 false m pc lv [ml_i rv]) : ∀ (l0 : Nat), fX11_movedMany l0 m = some rv → ml_V E "LostRoomModel" cX11_movedMany 5 false m 0 [(0, ml_r l0)] [] := by
  intro l0 h
  unfold fX11_movedMany at h
  exact ml_iconst dX11_movedMany_0 kc_i0 <| ml_istore_n (lv' := [(1, ml_i (0 : Int32)), (0, ml_r l0)]) dX11_movedMany_1 (ml_hn hL rfl) rfl <| ml_iconst dX11_movedMany_2 kc_i0 <| ml_istore_n (lv' := [(2, ml_i (0 : Int32)), (1, ml_i (0 : Int32)), (0, ml_r l0)]) dX11_movedMany_3 (ml_hn hL rfl) rfl <| ml_V.sub [2, 1, 0] rfl (vX11_movedMany_4 hL hr  ml_fu _ _ _ h)
theorem sX11_movedMany {l0 : Nat} {m : ml_M} {rv : Int32} (h : fX11_movedMany l0 m = some rv) : ml_Sn yX11_movedMany cX11_movedMany 3 (some .int) 5 [ml_r l0] m (some (ml_i rv)) m :=
  ml_Sn_of (P := True) (ini := false) (by decide +kernel) (Nat.le_of_ble_eq_true rfl) (fun h => by cases h) (fun _ => ml_RkI rv) fun E hL hr => wX11_movedMany_0 hL hr _ h
theorem dX11_nextSharing_0 : ml_d cX11_nextSharing 0 (.aload_n 0) 1 1 := ⟨by decide +kernel, rfl⟩
theorem dX11_nextSharing_1 : ml_d cX11_nextSharing 1 (.invokevirtual 286) 3 4 := ⟨by decide +kernel, rfl⟩
theorem dX11_nextSharing_4 : ml_d cX11_nextSharing 4 (.istore_n 2) 1 5 := ⟨by decide +kernel, rfl⟩
theorem dX11_nextSharing_5 : ml_d cX11_nextSharing 5 (.iload_n 2) 1 6 := ⟨by decide +kernel, rfl⟩
theorem dX11_nextSharing_6 : ml_j cX11_nextSharing 6 (.ifCond .eq) 32 9 := ⟨26, by decide +kernel, by decide, rfl⟩
theorem dX11_nextSharing_9 : ml_d cX11_nextSharing 9 (.aload_n 0) 1 10 := ⟨by decide +kernel, rfl⟩
theorem dX11_nextSharing_10 : ml_d cX11_nextSharing 10 (.invokevirtual 290) 3 13 := ⟨by decide +kernel, rfl⟩
theorem dX11_nextSharing_13 : ml_j cX11_nextSharing 13 (.ifCond .eq) 24 16 := ⟨11, by decide +kernel, by decide, rfl⟩
theorem dX11_nextSharing_16 : ml_d cX11_nextSharing 16 (.aload_n 0) 1 17 := ⟨by decide +kernel, rfl⟩
theorem dX11_nextSharing_17 : ml_d cX11_nextSharing 17 (.invokevirtual 293) 3 20 := ⟨by decide +kernel, rfl⟩
theorem dX11_nextSharing_20 : ml_d cX11_nextSharing 20 (.iload_n 1) 1 21 := ⟨by decide +kernel, rfl⟩
theorem dX11_nextSharing_21 : ml_j cX11_nextSharing 21 (.if_icmp .le) 32 24 := ⟨11, by decide +kernel, by decide, rfl⟩
theorem dX11_nextSharing_24 : ml_d cX11_nextSharing 24 (.aload_n 0) 1 25 := ⟨by decide +kernel, rfl⟩
theorem dX11_nextSharing_25 : ml_d cX11_nextSharing 25 (.invokevirtual 286) 3 28 := ⟨by decide +kernel, rfl⟩
theorem dX11_nextSharing_28 : ml_d cX11_nextSharing 28 (.istore_n 2) 1 29 := ⟨by decide +kernel, rfl⟩
theorem dX11_nextSharing_29 : ml_j cX11_nextSharing 29 .goto 5 32 := ⟨(-24), by decide +kernel, by decide, rfl⟩
theorem dX11_nextSharing_32 : ml_d cX11_nextSharing 32 (.iload_n 2) 1 33 := ⟨by decide +kernel, rfl⟩
theorem dX11_nextSharing_33 : ml_d cX11_nextSharing 33 (.ireturn) 1 34 := ⟨by decide +kernel, rfl⟩
def fX11_nextSharing_24 (k5 : Nat → Int32 → Int32 → ml_M → Option (Int32 × ml_M)) (l0 : Nat) (l1 : Int32) (m : ml_M) : Option (Int32 × ml_M) :=
    if (ml_K m l0).1 = 11 then
    ml_b2 (fX11_nextRow l0 m) fun r2443 m2444 =>
    k5 l0 l1 r2443 m2444
    else none
theorem vX11_nextSharing_24 {E : ml_E} (hL : ml_eL E = 3) {rv : Int32} {rm : ml_M} (hr : ∀ (pc pc' : Nat) (lv : List (Nat × ml_X)), ml_d cX11_nextSharing pc .ireturn 1 pc' → (rv = 0 ∨ rv = 1) → ml_V E "LostRoomModel" cX11_nextSharing 7 false rm pc lv [ml_i rv]) {k5 : Nat → Int32 → Int32 → ml_M → Option (Int32 × ml_M)} (hk5 : ∀ (l0 : Nat) (l1 : Int32) (l2 : Int32) (m : ml_M), k5 l0 l1 l2 m = some (rv, rm) → ml_V E "LostRoomModel" cX11_nextSharing 7 false m 5 [(0, ml_r l0), (1, ml_i l1), (2, ml_i l2)] []) : ∀ (l0 : Nat) (l1 : Int32) (m : ml_M), fX11_nextSharing_24 k5 l0 l1 m = some (rv, rm) → ml_V E "LostRoomModel" cX11_nextSharing 7 false m 24 [(0, ml_r l0), (1, ml_i l1)] [] := by
  intro l0 l1 m h
  unfold fX11_nextSharing_24 at h
  exact ml_aload_n dX11_nextSharing_24 0 rfl <| ml_ck_of h fun hc2442 h => ml_b2_of h fun r2443 m2444 hv2441 h => ml_callV dX11_nextSharing_25 wm_591 wb_357 hc2442 (sX11_nextRow hv2441) rfl (Nat.le_of_ble_eq_true rfl) (Nat.le_of_ble_eq_true rfl) rfl <| ml_istore_n (lv' := [(2, ml_i r2443), (0, ml_r l0), (1, ml_i l1)]) dX11_nextSharing_28 (ml_hn hL rfl) rfl <| ml_goto dX11_nextSharing_29 <| ml_V.sub [1, 2, 0] rfl (hk5 _ _ _ _ h)
def fX11_nextSharing_5 : Nat → Nat → Int32 → Int32 → ml_M → Option (Int32 × ml_M)
  | 0, _, _, _, _ => none
  | fu + 1, l0, l1, l2, m =>
    if l2 = 0 then
    if l2 = 0 ∨ l2 = 1 then some (l2, m) else none
    else
    if (ml_K m l0).1 = 11 then
    ml_b1 (fX11_isSharing l0 m) fun r2448 =>
    if r2448 = 0 then
    fX11_nextSharing_24 (fX11_nextSharing_5 fu) l0 l1 m
    else
    ml_b1 (fX11_movedMany l0 m) fun r2450 =>
    if r2450 ≤ l1 then
    if l2 = 0 ∨ l2 = 1 then some (l2, m) else none
    else
    fX11_nextSharing_24 (fX11_nextSharing_5 fu) l0 l1 m
    else none
theorem vX11_nextSharing_5 {E : ml_E} (hL : ml_eL E = 3) {rv : Int32} {rm : ml_M} (hr : ∀ (pc pc' : Nat) (lv : List (Nat × ml_X)), ml_d cX11_nextSharing pc .ireturn 1 pc' → (rv = 0 ∨ rv = 1) → ml_V E "LostRoomModel" cX11_nextSharing 7 false rm pc lv [ml_i rv]) : ∀ (fu : Nat) (l0 : Nat) (l1 : Int32) (l2 : Int32) (m : ml_M), fX11_nextSharing_5 fu l0 l1 l2 m = some (rv, rm) → ml_V E "LostRoomModel" cX11_nextSharing 7 false m 5 [(0, ml_r l0), (1, ml_i l1), (2, ml_i l2)] [] := by
  intro fu
  induction fu with
  | zero => intro l0 l1 l2 m h; exact ml_none h
  | succ fu ih =>
    intro l0 l1 l2 m h
    have hk5 := ih
    unfold fX11_nextSharing_5 at h
    exact ml_iload_n dX11_nextSharing_5 2 rfl <| ml_if_eq dX11_nextSharing_6 h (fun _ h => ml_iload_n dX11_nextSharing_32 2 rfl <| ml_ck_of h fun hz2445 h => ml_rI (mk := ml_i) hr dX11_nextSharing_33 (fun e => e ▸ hz2445) h) (fun _ h => ml_aload_n dX11_nextSharing_9 0 rfl <| ml_ck_of h fun hc2447 h => ml_b1_of h fun r2448 hv2446 h => ml_callV dX11_nextSharing_10 wm_595 wb_358 hc2447 (sX11_isSharing hv2446) rfl (Nat.le_of_ble_eq_true rfl) (Nat.le_of_ble_eq_true rfl) rfl <| ml_if_eq dX11_nextSharing_13 h (fun _ h => ml_V.sub [0, 1] rfl (vX11_nextSharing_24 hL hr hk5 _ _ _ h)) (fun _ h => ml_aload_n dX11_nextSharing_16 0 rfl <| ml_b1_of h fun r2450 hv2449 h => ml_callV dX11_nextSharing_17 wm_599 wb_359 hc2447 (sX11_movedMany hv2449) rfl (Nat.le_of_ble_eq_true rfl) (Nat.le_of_ble_eq_true rfl) rfl <| ml_iload_n dX11_nextSharing_20 1 rfl <| ml_icmp_le dX11_nextSharing_21 h (fun _ h => ml_iload_n dX11_nextSharing_32 2 rfl <| ml_ck_of h fun hz2451 h => ml_rI (mk := ml_i) hr dX11_nextSharing_33 (fun e => e ▸ hz2451) h) (fun _ h => ml_V.sub [0, 1] rfl (vX11_nextSharing_24 hL hr hk5 _ _ _ h))))
def fX11_nextSharing (l0 : Nat) (l1 : Int32) (m : ml_M) : Option (Int32 × ml_M) :=
    if (ml_K m l0).1 = 11 then
    ml_b2 (fX11_nextRow l0 m) fun r2454 m2455 =>
    fX11_nextSharing_5 ml_fu l0 l1 r2454 m2455
    else none
theorem wX11_nextSharing_0 {E : ml_E} (hL : ml_eL E = 3) {rv : Int32} {rm : ml_M} (hr : ∀ (pc pc' : Nat) (lv : List (Nat × ml_X)), ml_d cX11_nextSharing pc .ireturn 1 pc' → (rv = 0 ∨ rv = 1) → ml_V E "LostRoomModel" cX11_nextSharing 7 false rm pc lv [ml_i rv]) : ∀ (l0 : Nat) (l1 : Int32) (m : ml_M), fX11_nextSharing l0 l1 m = some (rv, rm) → ml_V E "LostRoomModel" cX11_nextSharing 7 false m 0 [(0, ml_r l0), (1, ml_i l1)] [] := by
  intro l0 l1 m h
  unfold fX11_nextSharing at h
  exact ml_aload_n dX11_nextSharing_0 0 rfl <| ml_ck_of h fun hc2453 h => ml_b2_of h fun r2454 m2455 hv2452 h => ml_callV dX11_nextSharing_1 wm_591 wb_357 hc2453 (sX11_nextRow hv2452) rfl (Nat.le_of_ble_eq_true rfl) (Nat.le_of_ble_eq_true rfl) rfl <| ml_istore_n (lv' := [(2, ml_i r2454), (0, ml_r l0), (1, ml_i l1)]) dX11_nextSharing_4 (ml_hn hL rfl) rfl <| ml_V.sub [1, 2, 0] rfl (vX11_nextSharing_5 hL hr  ml_fu _ _ _ _ h)
theorem sX11_nextSharing {l0 : Nat} {l1 : Int32} {m : ml_M} {rv : Int32} {rm : ml_M} (h : fX11_nextSharing l0 l1 m = some (rv, rm)) : ml_Sn yX11_nextSharing cX11_nextSharing 3 (some .boolean) 7 [ml_r l0, ml_i l1] m (some (ml_i rv)) rm :=
  ml_Sn_of (P := (rv = 0 ∨ rv = 1)) (ini := false) (by decide +kernel) (Nat.le_of_ble_eq_true rfl) (fun h => by cases h) (fun hz => ml_RkZ rv hz) fun E hL hr => wX11_nextSharing_0 hL hr _ _ _ h
theorem dX11_share_0 : ml_d cX11_share 0 (.iload_n 1) 1 1 := ⟨by decide +kernel, rfl⟩
theorem dX11_share_1 : ml_d cX11_share 1 (.invokestatic 111) 3 4 := ⟨by decide +kernel, rfl⟩
theorem dX11_share_4 : ml_j cX11_share 4 (.ifCond .ne) 9 7 := ⟨5, by decide +kernel, by decide, rfl⟩
theorem dX11_share_7 : ml_d cX11_share 7 (.iconst (-1)) 1 8 := ⟨by decide +kernel, rfl⟩
theorem dX11_share_8 : ml_d cX11_share 8 (.ireturn) 1 9 := ⟨by decide +kernel, rfl⟩
theorem dX11_share_9 : ml_d cX11_share 9 (.bipush (-9)) 2 11 := ⟨by decide +kernel, rfl⟩
theorem dX11_share_11 : ml_d cX11_share 11 (.istore_n 2) 1 12 := ⟨by decide +kernel, rfl⟩
theorem dX11_share_12 : ml_d cX11_share 12 (.aload_n 0) 1 13 := ⟨by decide +kernel, rfl⟩
theorem dX11_share_13 : ml_d cX11_share 13 (.invokevirtual 297) 3 16 := ⟨by decide +kernel, rfl⟩
theorem dX11_share_16 : ml_d cX11_share 16 (.aload_n 0) 1 17 := ⟨by decide +kernel, rfl⟩
theorem dX11_share_17 : ml_d cX11_share 17 (.bipush 20) 2 19 := ⟨by decide +kernel, rfl⟩
theorem dX11_share_19 : ml_d cX11_share 19 (.invokevirtual 300) 3 22 := ⟨by decide +kernel, rfl⟩
theorem dX11_share_22 : ml_j cX11_share 22 (.ifCond .eq) 75 25 := ⟨53, by decide +kernel, by decide, rfl⟩
theorem dX11_share_25 : ml_d cX11_share 25 (.iload_n 2) 1 26 := ⟨by decide +kernel, rfl⟩
theorem dX11_share_26 : ml_d cX11_share 26 (.bipush (-9)) 2 28 := ⟨by decide +kernel, rfl⟩
theorem dX11_share_28 : ml_j cX11_share 28 (.if_icmp .eq) 39 31 := ⟨11, by decide +kernel, by decide, rfl⟩
theorem dX11_share_31 : ml_d cX11_share 31 (.aload_n 0) 1 32 := ⟨by decide +kernel, rfl⟩
theorem dX11_share_32 : ml_d cX11_share 32 (.invokevirtual 293) 3 35 := ⟨by decide +kernel, rfl⟩
theorem dX11_share_35 : ml_d cX11_share 35 (.iload_n 2) 1 36 := ⟨by decide +kernel, rfl⟩
theorem dX11_share_36 : ml_j cX11_share 36 (.if_icmp .ge) 16 39 := ⟨(-20), by decide +kernel, by decide, rfl⟩
theorem dX11_share_39 : ml_d cX11_share 39 (.aload_n 0) 1 40 := ⟨by decide +kernel, rfl⟩
theorem dX11_share_40 : ml_d cX11_share 40 (.invokevirtual 293) 3 43 := ⟨by decide +kernel, rfl⟩
theorem dX11_share_43 : ml_d cX11_share 43 (.istore_n 2) 1 44 := ⟨by decide +kernel, rfl⟩
theorem dX11_share_44 : ml_d cX11_share 44 (.iconst 0) 1 45 := ⟨by decide +kernel, rfl⟩
theorem dX11_share_45 : ml_d cX11_share 45 (.istore_n 3) 1 46 := ⟨by decide +kernel, rfl⟩
theorem dX11_share_46 : ml_d cX11_share 46 (.iload_n 3) 1 47 := ⟨by decide +kernel, rfl⟩
theorem dX11_share_47 : ml_d cX11_share 47 (.aload_n 0) 1 48 := ⟨by decide +kernel, rfl⟩
theorem dX11_share_48 : ml_d cX11_share 48 (.getfield 175) 3 51 := ⟨by decide +kernel, rfl⟩
theorem dX11_share_51 : ml_j cX11_share 51 (.if_icmp .ge) 72 54 := ⟨21, by decide +kernel, by decide, rfl⟩
theorem dX11_share_54 : ml_d cX11_share 54 (.aload_n 0) 1 55 := ⟨by decide +kernel, rfl⟩
theorem dX11_share_55 : ml_d cX11_share 55 (.getfield 56) 3 58 := ⟨by decide +kernel, rfl⟩
theorem dX11_share_58 : ml_d cX11_share 58 (.iload_n 3) 1 59 := ⟨by decide +kernel, rfl⟩
theorem dX11_share_59 : ml_d cX11_share 59 (.aload_n 0) 1 60 := ⟨by decide +kernel, rfl⟩
theorem dX11_share_60 : ml_d cX11_share 60 (.getfield 53) 3 63 := ⟨by decide +kernel, rfl⟩
theorem dX11_share_63 : ml_d cX11_share 63 (.iload_n 3) 1 64 := ⟨by decide +kernel, rfl⟩
theorem dX11_share_64 : ml_d cX11_share 64 (.iaload) 1 65 := ⟨by decide +kernel, rfl⟩
theorem dX11_share_65 : ml_d cX11_share 65 (.iastore) 1 66 := ⟨by decide +kernel, rfl⟩
theorem dX11_share_66 : ml_d cX11_share 66 (.iinc 3 1) 3 69 := ⟨by decide +kernel, rfl⟩
theorem dX11_share_69 : ml_j cX11_share 69 .goto 46 72 := ⟨(-23), by decide +kernel, by decide, rfl⟩
theorem dX11_share_72 : ml_j cX11_share 72 .goto 16 75 := ⟨(-56), by decide +kernel, by decide, rfl⟩
theorem dX11_share_75 : ml_d cX11_share 75 (.iload_n 2) 1 76 := ⟨by decide +kernel, rfl⟩
theorem dX11_share_76 : ml_d cX11_share 76 (.bipush (-9)) 2 78 := ⟨by decide +kernel, rfl⟩
theorem dX11_share_78 : ml_j cX11_share 78 (.if_icmp .ne) 84 81 := ⟨6, by decide +kernel, by decide, rfl⟩
theorem dX11_share_81 : ml_d cX11_share 81 (.bipush (-9)) 2 83 := ⟨by decide +kernel, rfl⟩
theorem dX11_share_83 : ml_d cX11_share 83 (.ireturn) 1 84 := ⟨by decide +kernel, rfl⟩
theorem dX11_share_84 : ml_d cX11_share 84 (.aload_n 0) 1 85 := ⟨by decide +kernel, rfl⟩
theorem dX11_share_85 : ml_d cX11_share 85 (.iload_n 1) 1 86 := ⟨by decide +kernel, rfl⟩
theorem dX11_share_86 : ml_d cX11_share 86 (.aload_n 0) 1 87 := ⟨by decide +kernel, rfl⟩
theorem dX11_share_87 : ml_d cX11_share 87 (.getfield 175) 3 90 := ⟨by decide +kernel, rfl⟩
theorem dX11_share_90 : ml_d cX11_share 90 (.invokevirtual 272) 3 93 := ⟨by decide +kernel, rfl⟩
theorem dX11_share_93 : ml_d cX11_share 93 (.iconst 0) 1 94 := ⟨by decide +kernel, rfl⟩
theorem dX11_share_94 : ml_d cX11_share 94 (.istore_n 3) 1 95 := ⟨by decide +kernel, rfl⟩
theorem dX11_share_95 : ml_d cX11_share 95 (.iload_n 3) 1 96 := ⟨by decide +kernel, rfl⟩
theorem dX11_share_96 : ml_d cX11_share 96 (.aload_n 0) 1 97 := ⟨by decide +kernel, rfl⟩
theorem dX11_share_97 : ml_d cX11_share 97 (.getfield 175) 3 100 := ⟨by decide +kernel, rfl⟩
theorem dX11_share_100 : ml_j cX11_share 100 (.if_icmp .ge) 126 103 := ⟨26, by decide +kernel, by decide, rfl⟩
theorem dX11_share_103 : ml_d cX11_share 103 (.aload_n 0) 1 104 := ⟨by decide +kernel, rfl⟩
theorem dX11_share_104 : ml_d cX11_share 104 (.getfield 16) 3 107 := ⟨by decide +kernel, rfl⟩
theorem dX11_share_107 : ml_d cX11_share 107 (.bipush 48) 2 109 := ⟨by decide +kernel, rfl⟩
theorem dX11_share_109 : ml_d cX11_share 109 (.iload_n 1) 1 110 := ⟨by decide +kernel, rfl⟩
theorem dX11_share_110 : ml_d cX11_share 110 (.imul) 1 111 := ⟨by decide +kernel, rfl⟩
theorem dX11_share_111 : ml_d cX11_share 111 (.iload_n 3) 1 112 := ⟨by decide +kernel, rfl⟩
theorem dX11_share_112 : ml_d cX11_share 112 (.iadd) 1 113 := ⟨by decide +kernel, rfl⟩
theorem dX11_share_113 : ml_d cX11_share 113 (.aload_n 0) 1 114 := ⟨by decide +kernel, rfl⟩
theorem dX11_share_114 : ml_d cX11_share 114 (.getfield 56) 3 117 := ⟨by decide +kernel, rfl⟩
theorem dX11_share_117 : ml_d cX11_share 117 (.iload_n 3) 1 118 := ⟨by decide +kernel, rfl⟩
theorem dX11_share_118 : ml_d cX11_share 118 (.iaload) 1 119 := ⟨by decide +kernel, rfl⟩
theorem dX11_share_119 : ml_d cX11_share 119 (.iastore) 1 120 := ⟨by decide +kernel, rfl⟩
theorem dX11_share_120 : ml_d cX11_share 120 (.iinc 3 1) 3 123 := ⟨by decide +kernel, rfl⟩
theorem dX11_share_123 : ml_j cX11_share 123 .goto 95 126 := ⟨(-28), by decide +kernel, by decide, rfl⟩
theorem dX11_share_126 : ml_d cX11_share 126 (.iload_n 2) 1 127 := ⟨by decide +kernel, rfl⟩
theorem dX11_share_127 : ml_d cX11_share 127 (.ireturn) 1 128 := ⟨by decide +kernel, rfl⟩
def fX11_share_72 (k16 : Nat → Int32 → Int32 → ml_M → Option (Int32 × ml_M)) (l0 : Nat) (l1 : Int32) (l2 : Int32) (m : ml_M) : Option (Int32 × ml_M) :=
    k16 l0 l1 l2 m
theorem vX11_share_72 {E : ml_E} (hL : ml_eL E = 4) {rv : Int32} {rm : ml_M} (hr : ∀ (pc pc' : Nat) (lv : List (Nat × ml_X)), ml_d cX11_share pc .ireturn 1 pc' → True → ml_V E "LostRoomModel" cX11_share 8 false rm pc lv [ml_i rv]) {k16 : Nat → Int32 → Int32 → ml_M → Option (Int32 × ml_M)} (hk16 : ∀ (l0 : Nat) (l1 : Int32) (l2 : Int32) (m : ml_M), k16 l0 l1 l2 m = some (rv, rm) → ml_V E "LostRoomModel" cX11_share 8 false m 16 [(0, ml_r l0), (1, ml_i l1), (2, ml_i l2)] []) : ∀ (l0 : Nat) (l1 : Int32) (l2 : Int32) (m : ml_M), fX11_share_72 k16 l0 l1 l2 m = some (rv, rm) → ml_V E "LostRoomModel" cX11_share 8 false m 72 [(0, ml_r l0), (1, ml_i l1), (2, ml_i l2)] [] := by
  intro l0 l1 l2 m h
  unfold fX11_share_72 at h
  exact ml_goto dX11_share_72 <| ml_V.sub [0, 1, 2] rfl (hk16 _ _ _ _ h)
def fX11_share_46 (k16 : Nat → Int32 → Int32 → ml_M → Option (Int32 × ml_M)) : Nat → Nat → Int32 → Int32 → Int32 → ml_M → Option (Int32 × ml_M)
  | 0, _, _, _, _, _ => none
  | fu + 1, l0, l1, l2, l3, m =>
    if (ml_K m l0).1 = 11 then
    if (ml_I m l0 10) ≤ l3 then
    fX11_share_72 k16 l0 l1 l2 m
    else
    ml_let (ml_R m l0 29) fun a2457 =>
    ml_let (ml_R m l0 27) fun a2458 =>
    if ml_in m a2458 20 l3 then
    if ml_in m a2457 20 l3 then
    ml_let (ml_sI m a2457 l3.toNatClampNeg (ml_I m a2458 l3.toNatClampNeg)) fun m2461 =>
    (fX11_share_46 k16 fu) l0 l1 l2 (l3 + (1 : Int32)) m2461
    else none
    else none
    else none
theorem vX11_share_46 {E : ml_E} (hL : ml_eL E = 4) {rv : Int32} {rm : ml_M} (hr : ∀ (pc pc' : Nat) (lv : List (Nat × ml_X)), ml_d cX11_share pc .ireturn 1 pc' → True → ml_V E "LostRoomModel" cX11_share 8 false rm pc lv [ml_i rv]) {k16 : Nat → Int32 → Int32 → ml_M → Option (Int32 × ml_M)} (hk16 : ∀ (l0 : Nat) (l1 : Int32) (l2 : Int32) (m : ml_M), k16 l0 l1 l2 m = some (rv, rm) → ml_V E "LostRoomModel" cX11_share 8 false m 16 [(0, ml_r l0), (1, ml_i l1), (2, ml_i l2)] []) : ∀ (fu : Nat) (l0 : Nat) (l1 : Int32) (l2 : Int32) (l3 : Int32) (m : ml_M), fX11_share_46 k16 fu l0 l1 l2 l3 m = some (rv, rm) → ml_V E "LostRoomModel" cX11_share 8 false m 46 [(0, ml_r l0), (1, ml_i l1), (2, ml_i l2), (3, ml_i l3)] [] := by
  intro fu
  induction fu with
  | zero => intro l0 l1 l2 l3 m h; exact ml_none h
  | succ fu ih =>
    intro l0 l1 l2 l3 m h
    have hk46 := ih
    unfold fX11_share_46 at h
    exact ml_iload_n dX11_share_46 3 rfl <| ml_aload_n dX11_share_47 0 rfl <| ml_ck_of h fun hc2456 h => ml_getI dX11_share_48 wb_196 hc2456 <| ml_icmp_ge dX11_share_51 h (fun _ h => ml_V.sub [0, 1, 2] rfl (vX11_share_72 hL hr hk16 _ _ _ _ h)) (fun _ h => ml_aload_n dX11_share_54 0 rfl <| ml_getR dX11_share_55 wb_360 hc2456 <| ml_lx (mk := ml_r) h fun a2457 h => ml_iload_n dX11_share_58 3 rfl <| ml_aload_n dX11_share_59 0 rfl <| ml_getR dX11_share_60 wb_352 hc2456 <| ml_lx (mk := ml_r) h fun a2458 h => ml_iload_n dX11_share_63 3 rfl <| ml_ck_of h fun hi2459 h => ml_iald dX11_share_64 hi2459 <| ml_ck_of h fun hi2460 h => ml_iast dX11_share_65 hi2460 <| ml_lt (m := m) rfl h fun m2461 em2462 h => ml_iinc (lv' := [(3, ml_i (l3 + (1 : Int32))), (0, ml_r l0), (1, ml_i l1), (2, ml_i l2)]) dX11_share_66 3 rfl (congrArg (l3 + ·) kc_i1) (ml_hn hL rfl) rfl <| ml_goto dX11_share_69 <| ml_V.sub [1, 2, 3, 0] rfl (hk46 _ _ _ _ _ h))
def fX11_share_39 (k16 : Nat → Int32 → Int32 → ml_M → Option (Int32 × ml_M)) (l0 : Nat) (l1 : Int32) (m : ml_M) : Option (Int32 × ml_M) :=
    if (ml_K m l0).1 = 11 then
    ml_b1 (fX11_movedMany l0 m) fun r2465 =>
    fX11_share_46 k16 ml_fu l0 l1 r2465 (0 : Int32) m
    else none
theorem vX11_share_39 {E : ml_E} (hL : ml_eL E = 4) {rv : Int32} {rm : ml_M} (hr : ∀ (pc pc' : Nat) (lv : List (Nat × ml_X)), ml_d cX11_share pc .ireturn 1 pc' → True → ml_V E "LostRoomModel" cX11_share 8 false rm pc lv [ml_i rv]) {k16 : Nat → Int32 → Int32 → ml_M → Option (Int32 × ml_M)} (hk16 : ∀ (l0 : Nat) (l1 : Int32) (l2 : Int32) (m : ml_M), k16 l0 l1 l2 m = some (rv, rm) → ml_V E "LostRoomModel" cX11_share 8 false m 16 [(0, ml_r l0), (1, ml_i l1), (2, ml_i l2)] []) : ∀ (l0 : Nat) (l1 : Int32) (m : ml_M), fX11_share_39 k16 l0 l1 m = some (rv, rm) → ml_V E "LostRoomModel" cX11_share 8 false m 39 [(0, ml_r l0), (1, ml_i l1)] [] := by
  intro l0 l1 m h
  unfold fX11_share_39 at h
  exact ml_aload_n dX11_share_39 0 rfl <| ml_ck_of h fun hc2464 h => ml_b1_of h fun r2465 hv2463 h => ml_callV dX11_share_40 wm_599 wb_359 hc2464 (sX11_movedMany hv2463) rfl (Nat.le_of_ble_eq_true rfl) (Nat.le_of_ble_eq_true rfl) rfl <| ml_istore_n (lv' := [(2, ml_i r2465), (0, ml_r l0), (1, ml_i l1)]) dX11_share_43 (ml_hn hL rfl) rfl <| ml_iconst dX11_share_44 kc_i0 <| ml_istore_n (lv' := [(3, ml_i (0 : Int32)), (2, ml_i r2465), (0, ml_r l0), (1, ml_i l1)]) dX11_share_45 (ml_hn hL rfl) rfl <| ml_V.sub [2, 3, 1, 0] rfl (vX11_share_46 hL hr hk16 ml_fu _ _ _ _ _ h)
def fX11_share_95 : Nat → Nat → Int32 → Int32 → Int32 → ml_M → Option (Int32 × ml_M)
  | 0, _, _, _, _, _ => none
  | fu + 1, l0, l1, l2, l3, m =>
    if (ml_K m l0).1 = 11 then
    if (ml_I m l0 10) ≤ l3 then
    some (l2, m)
    else
    ml_let (ml_R m l0 5) fun a2467 =>
    ml_let (ml_R m l0 29) fun a2468 =>
    if ml_in m a2468 20 l3 then
    if ml_in m a2467 20 (((48 : Int32) * l1) + l3) then
    ml_let (ml_sI m a2467 (((48 : Int32) * l1) + l3).toNatClampNeg (ml_I m a2468 l3.toNatClampNeg)) fun m2471 =>
    (fX11_share_95 fu) l0 l1 l2 (l3 + (1 : Int32)) m2471
    else none
    else none
    else none
theorem vX11_share_95 {E : ml_E} (hL : ml_eL E = 4) {rv : Int32} {rm : ml_M} (hr : ∀ (pc pc' : Nat) (lv : List (Nat × ml_X)), ml_d cX11_share pc .ireturn 1 pc' → True → ml_V E "LostRoomModel" cX11_share 8 false rm pc lv [ml_i rv]) : ∀ (fu : Nat) (l0 : Nat) (l1 : Int32) (l2 : Int32) (l3 : Int32) (m : ml_M), fX11_share_95 fu l0 l1 l2 l3 m = some (rv, rm) → ml_V E "LostRoomModel" cX11_share 8 false m 95 [(0, ml_r l0), (1, ml_i l1), (2, ml_i l2), (3, ml_i l3)] [] := by
  intro fu
  induction fu with
  | zero => intro l0 l1 l2 l3 m h; exact ml_none h
  | succ fu ih =>
    intro l0 l1 l2 l3 m h
    have hk95 := ih
    unfold fX11_share_95 at h
    exact ml_iload_n dX11_share_95 3 rfl <| ml_aload_n dX11_share_96 0 rfl <| ml_ck_of h fun hc2466 h => ml_getI dX11_share_97 wb_196 hc2466 <| ml_icmp_ge dX11_share_100 h (fun _ h => ml_iload_n dX11_share_126 2 rfl <| ml_rI (mk := ml_i) hr dX11_share_127 (fun _ => trivial) h) (fun _ h => ml_aload_n dX11_share_103 0 rfl <| ml_getR dX11_share_104 wb_103 hc2466 <| ml_lx (mk := ml_r) h fun a2467 h => ml_bipush dX11_share_107 kc_b48 <| ml_iload_n dX11_share_109 1 rfl <| ml_imul dX11_share_110 <| ml_iload_n dX11_share_111 3 rfl <| ml_iadd dX11_share_112 <| ml_aload_n dX11_share_113 0 rfl <| ml_getR dX11_share_114 wb_360 hc2466 <| ml_lx (mk := ml_r) h fun a2468 h => ml_iload_n dX11_share_117 3 rfl <| ml_ck_of h fun hi2469 h => ml_iald dX11_share_118 hi2469 <| ml_ck_of h fun hi2470 h => ml_iast dX11_share_119 hi2470 <| ml_lt (m := m) rfl h fun m2471 em2472 h => ml_iinc (lv' := [(3, ml_i (l3 + (1 : Int32))), (0, ml_r l0), (1, ml_i l1), (2, ml_i l2)]) dX11_share_120 3 rfl (congrArg (l3 + ·) kc_i1) (ml_hn hL rfl) rfl <| ml_goto dX11_share_123 <| ml_V.sub [1, 2, 3, 0] rfl (hk95 _ _ _ _ _ h))
def fX11_share_75 (l0 : Nat) (l1 : Int32) (l2 : Int32) (m : ml_M) : Option (Int32 × ml_M) :=
    if l2 = (-9 : Int32) then
    some ((-9 : Int32), m)
    else
    if (ml_K m l0).1 = 11 then
    ml_b1 (fX11_clear l0 l1 (ml_I m l0 10) m) fun m2475 =>
    fX11_share_95 ml_fu l0 l1 l2 (0 : Int32) m2475
    else none
theorem vX11_share_75 {E : ml_E} (hL : ml_eL E = 4) {rv : Int32} {rm : ml_M} (hr : ∀ (pc pc' : Nat) (lv : List (Nat × ml_X)), ml_d cX11_share pc .ireturn 1 pc' → True → ml_V E "LostRoomModel" cX11_share 8 false rm pc lv [ml_i rv]) : ∀ (l0 : Nat) (l1 : Int32) (l2 : Int32) (m : ml_M), fX11_share_75 l0 l1 l2 m = some (rv, rm) → ml_V E "LostRoomModel" cX11_share 8 false m 75 [(0, ml_r l0), (1, ml_i l1), (2, ml_i l2)] [] := by
  intro l0 l1 l2 m h
  unfold fX11_share_75 at h
  exact ml_iload_n dX11_share_75 2 rfl <| ml_bipush dX11_share_76 kc_bm9 <| ml_icmp_ne dX11_share_78 h (fun _ h => ml_aload_n dX11_share_84 0 rfl <| ml_iload_n dX11_share_85 1 rfl <| ml_aload_n dX11_share_86 0 rfl <| ml_ck_of h fun hc2473 h => ml_getI dX11_share_87 wb_196 hc2473 <| ml_b1_of h fun m2475 hv2474 h => ml_callV dX11_share_90 wm_525 wb_311 hc2473 (sX11_clear hv2474) rfl (Nat.le_of_ble_eq_true rfl) (Nat.le_of_ble_eq_true rfl) rfl <| ml_iconst dX11_share_93 kc_i0 <| ml_istore_n (lv' := [(3, ml_i (0 : Int32)), (0, ml_r l0), (1, ml_i l1), (2, ml_i l2)]) dX11_share_94 (ml_hn hL rfl) rfl <| ml_V.sub [1, 2, 3, 0] rfl (vX11_share_95 hL hr  ml_fu _ _ _ _ _ h)) (fun _ h => ml_bipush dX11_share_81 kc_bm9 <| ml_rI (mk := ml_i) hr dX11_share_83 (fun _ => trivial) h)
def fX11_share_16 : Nat → Nat → Int32 → Int32 → ml_M → Option (Int32 × ml_M)
  | 0, _, _, _, _ => none
  | fu + 1, l0, l1, l2, m =>
    if (ml_K m l0).1 = 11 then
    ml_b2 (fX11_nextSharing l0 (20 : Int32) m) fun r2478 m2479 =>
    if r2478 = 0 then
    fX11_share_75 l0 l1 l2 m2479
    else
    if l2 = (-9 : Int32) then
    fX11_share_39 (fX11_share_16 fu) l0 l1 m2479
    else
    if (ml_K m2479 l0).1 = 11 then
    ml_b1 (fX11_movedMany l0 m2479) fun r2482 =>
    if l2 ≤ r2482 then
    (fX11_share_16 fu) l0 l1 l2 m2479
    else
    fX11_share_39 (fX11_share_16 fu) l0 l1 m2479
    else none
    else none
theorem vX11_share_16 {E : ml_E} (hL : ml_eL E = 4) {rv : Int32} {rm : ml_M} (hr : ∀ (pc pc' : Nat) (lv : List (Nat × ml_X)), ml_d cX11_share pc .ireturn 1 pc' → True → ml_V E "LostRoomModel" cX11_share 8 false rm pc lv [ml_i rv]) : ∀ (fu : Nat) (l0 : Nat) (l1 : Int32) (l2 : Int32) (m : ml_M), fX11_share_16 fu l0 l1 l2 m = some (rv, rm) → ml_V E "LostRoomModel" cX11_share 8 false m 16 [(0, ml_r l0), (1, ml_i l1), (2, ml_i l2)] [] := by
  intro fu
  induction fu with
  | zero => intro l0 l1 l2 m h; exact ml_none h
  | succ fu ih =>
    intro l0 l1 l2 m h
    have hk16 := ih
    unfold fX11_share_16 at h
    exact ml_aload_n dX11_share_16 0 rfl <| ml_bipush dX11_share_17 kc_b20 <| ml_ck_of h fun hc2477 h => ml_b2_of h fun r2478 m2479 hv2476 h => ml_callV dX11_share_19 wm_603 wb_361 hc2477 (sX11_nextSharing hv2476) rfl (Nat.le_of_ble_eq_true rfl) (Nat.le_of_ble_eq_true rfl) rfl <| ml_if_eq dX11_share_22 h (fun _ h => ml_V.sub [0, 1, 2] rfl (vX11_share_75 hL hr  _ _ _ _ h)) (fun _ h => ml_iload_n dX11_share_25 2 rfl <| ml_bipush dX11_share_26 kc_bm9 <| ml_icmp_eq dX11_share_28 h (fun _ h => ml_V.sub [0, 1] rfl (vX11_share_39 hL hr hk16 _ _ _ h)) (fun _ h => ml_aload_n dX11_share_31 0 rfl <| ml_ck_of h fun hc2481 h => ml_b1_of h fun r2482 hv2480 h => ml_callV dX11_share_32 wm_599 wb_359 hc2481 (sX11_movedMany hv2480) rfl (Nat.le_of_ble_eq_true rfl) (Nat.le_of_ble_eq_true rfl) rfl <| ml_iload_n dX11_share_35 2 rfl <| ml_icmp_ge dX11_share_36 h (fun _ h => ml_V.sub [0, 1, 2] rfl (hk16 _ _ _ _ h)) (fun _ h => ml_V.sub [0, 1] rfl (vX11_share_39 hL hr hk16 _ _ _ h))))
def fX11_share (l0 : Nat) (l1 : Int32) (m : ml_M) : Option (Int32 × ml_M) :=
    ml_b1 (fX11_isRow l1 m) fun r2484 =>
    if r2484 = 0 then
    some ((-1 : Int32), m)
    else
    if (ml_K m l0).1 = 11 then
    ml_b1 (fX11_beginSharings l0 m) fun m2487 =>
    fX11_share_16 ml_fu l0 l1 (-9 : Int32) m2487
    else none
theorem wX11_share_0 {E : ml_E} (hL : ml_eL E = 4) {rv : Int32} {rm : ml_M} (hr : ∀ (pc pc' : Nat) (lv : List (Nat × ml_X)), ml_d cX11_share pc .ireturn 1 pc' → True → ml_V E "LostRoomModel" cX11_share 8 false rm pc lv [ml_i rv]) : ∀ (l0 : Nat) (l1 : Int32) (m : ml_M), fX11_share l0 l1 m = some (rv, rm) → ml_V E "LostRoomModel" cX11_share 8 false m 0 [(0, ml_r l0), (1, ml_i l1)] [] := by
  intro l0 l1 m h
  unfold fX11_share at h
  exact ml_iload_n dX11_share_0 1 rfl <| ml_b1_of h fun r2484 hv2483 h => ml_callS dX11_share_1 wm_140 wb_104 (sX11_isRow hv2483) rfl (Nat.le_of_ble_eq_true rfl) (Nat.le_of_ble_eq_true rfl) rfl <| ml_if_ne dX11_share_4 h (fun _ h => ml_bipush dX11_share_9 kc_bm9 <| ml_istore_n (lv' := [(2, ml_i (-9 : Int32)), (0, ml_r l0), (1, ml_i l1)]) dX11_share_11 (ml_hn hL rfl) rfl <| ml_aload_n dX11_share_12 1 rfl <| ml_ck_of h fun hc2486 h => ml_b1_of h fun m2487 hv2485 h => ml_callV dX11_share_13 wm_607 wb_362 hc2486 (sX11_beginSharings hv2485) rfl (Nat.le_of_ble_eq_true rfl) (Nat.le_of_ble_eq_true rfl) rfl <| ml_V.sub [1, 2, 0] rfl (vX11_share_16 hL hr  ml_fu _ _ _ _ h)) (fun _ h => ml_iconst dX11_share_7 kc_im1 <| ml_rI (mk := ml_i) hr dX11_share_8 (fun _ => trivial) h)
theorem sX11_share {l0 : Nat} {l1 : Int32} {m : ml_M} {rv : Int32} {rm : ml_M} (h : fX11_share l0 l1 m = some (rv, rm)) : ml_Sn yX11_share cX11_share 4 (some .int) 8 [ml_r l0, ml_i l1] m (some (ml_i rv)) rm :=
  ml_Sn_of (P := True) (ini := false) (by decide +kernel) (Nat.le_of_ble_eq_true rfl) (fun h => by cases h) (fun _ => ml_RkI rv) fun E hL hr => wX11_share_0 hL hr _ _ _ h
theorem dX10_ways_0 : ml_d cX10_ways 0 (.iload_n 1) 1 1 := ⟨by decide +kernel, rfl⟩
theorem dX10_ways_1 : ml_d cX10_ways 1 (.iconst 0) 1 2 := ⟨by decide +kernel, rfl⟩
theorem dX10_ways_2 : ml_d cX10_ways 2 (.bipush 20) 2 4 := ⟨by decide +kernel, rfl⟩
theorem dX10_ways_4 : ml_d cX10_ways 4 (.invokestatic 138) 3 7 := ⟨by decide +kernel, rfl⟩
theorem dX10_ways_7 : ml_j cX10_ways 7 (.ifCond .ne) 12 10 := ⟨5, by decide +kernel, by decide, rfl⟩
theorem dX10_ways_10 : ml_d cX10_ways 10 (.iconst (-1)) 1 11 := ⟨by decide +kernel, rfl⟩
theorem dX10_ways_11 : ml_d cX10_ways 11 (.ireturn) 1 12 := ⟨by decide +kernel, rfl⟩
theorem dX10_ways_12 : ml_d cX10_ways 12 (.aload_n 0) 1 13 := ⟨by decide +kernel, rfl⟩
theorem dX10_ways_13 : ml_d cX10_ways 13 (.invokevirtual 243) 3 16 := ⟨by decide +kernel, rfl⟩
theorem dX10_ways_16 : ml_d cX10_ways 16 (.aload_n 0) 1 17 := ⟨by decide +kernel, rfl⟩
theorem dX10_ways_17 : ml_d cX10_ways 17 (.getfield 61) 3 20 := ⟨by decide +kernel, rfl⟩
theorem dX10_ways_20 : ml_d cX10_ways 20 (.getfield 256) 3 23 := ⟨by decide +kernel, rfl⟩
theorem dX10_ways_23 : ml_d cX10_ways 23 (.iload_n 1) 1 24 := ⟨by decide +kernel, rfl⟩
theorem dX10_ways_24 : ml_d cX10_ways 24 (.iaload) 1 25 := ⟨by decide +kernel, rfl⟩
theorem dX10_ways_25 : ml_d cX10_ways 25 (.ireturn) 1 26 := ⟨by decide +kernel, rfl⟩
def fX10_ways (l0 : Nat) (l1 : Int32) (m : ml_M) : Option (Int32 × ml_M) :=
    ml_b1 (fX10_within l1 (0 : Int32) (20 : Int32) m) fun r2489 =>
    if r2489 = 0 then
    some ((-1 : Int32), m)
    else
    if (ml_K m l0).1 = 10 then
    ml_b1 (fX10_refreshSharings l0 m) fun m2492 =>
    if (ml_K m2492 l0).1 = 10 then
    ml_let (ml_R m2492 l0 12) fun a2494 =>
    if (ml_K m2492 a2494).1 = 7 then
    ml_let (ml_R m2492 a2494 3) fun a2496 =>
    if ml_in m2492 a2496 20 l1 then
    some ((ml_I m2492 a2496 l1.toNatClampNeg), m2492)
    else none
    else none
    else none
    else none
theorem wX10_ways_0 {E : ml_E} (hL : ml_eL E = 2) {rv : Int32} {rm : ml_M} (hr : ∀ (pc pc' : Nat) (lv : List (Nat × ml_X)), ml_d cX10_ways pc .ireturn 1 pc' → True → ml_V E "LostRoom" cX10_ways 19 false rm pc lv [ml_i rv]) : ∀ (l0 : Nat) (l1 : Int32) (m : ml_M), fX10_ways l0 l1 m = some (rv, rm) → ml_V E "LostRoom" cX10_ways 19 false m 0 [(0, ml_r l0), (1, ml_i l1)] [] := by
  intro l0 l1 m h
  unfold fX10_ways at h
  exact ml_iload_n dX10_ways_0 1 rfl <| ml_iconst dX10_ways_1 kc_i0 <| ml_bipush dX10_ways_2 kc_b20 <| ml_b1_of h fun r2489 hv2488 h => ml_callS dX10_ways_4 wm_124 wb_94 (sX10_within hv2488) rfl (Nat.le_of_ble_eq_true rfl) (Nat.le_of_ble_eq_true rfl) rfl <| ml_if_ne dX10_ways_7 h (fun _ h => ml_aload_n dX10_ways_12 0 rfl <| ml_ck_of h fun hc2491 h => ml_b1_of h fun m2492 hv2490 h => ml_callV dX10_ways_13 wm_573 wb_348 hc2491 (sX10_refreshSharings hv2490) rfl (Nat.le_of_ble_eq_true rfl) (Nat.le_of_ble_eq_true rfl) rfl <| ml_aload_n dX10_ways_16 0 rfl <| ml_ck_of h fun hc2493 h => ml_getR dX10_ways_17 wb_185 hc2493 <| ml_lx (mk := ml_r) h fun a2494 h => ml_ck_of h fun hc2495 h => ml_getR dX10_ways_20 wb_363 hc2495 <| ml_lx (mk := ml_r) h fun a2496 h => ml_iload_n dX10_ways_23 1 rfl <| ml_ck_of h fun hi2497 h => ml_iald dX10_ways_24 hi2497 <| ml_rI (mk := ml_i) hr dX10_ways_25 (fun _ => trivial) h) (fun _ h => ml_iconst dX10_ways_10 kc_im1 <| ml_rI (mk := ml_i) hr dX10_ways_11 (fun _ => trivial) h)
theorem sX10_ways {l0 : Nat} {l1 : Int32} {m : ml_M} {rv : Int32} {rm : ml_M} (h : fX10_ways l0 l1 m = some (rv, rm)) : ml_Sn yX10_ways cX10_ways 2 (some .int) 19 [ml_r l0, ml_i l1] m (some (ml_i rv)) rm :=
  ml_Sn_of (P := True) (ini := false) (by decide +kernel) (Nat.le_of_ble_eq_true rfl) (fun h => by cases h) (fun _ => ml_RkI rv) fun E hL hr => wX10_ways_0 hL hr _ _ _ h
theorem dX11_isMost_0 : ml_d cX11_isMost 0 (.iload_n 0) 1 1 := ⟨by decide +kernel, rfl⟩
theorem dX11_isMost_1 : ml_d cX11_isMost 1 (.iconst 0) 1 2 := ⟨by decide +kernel, rfl⟩
theorem dX11_isMost_2 : ml_d cX11_isMost 2 (.bipush 20) 2 4 := ⟨by decide +kernel, rfl⟩
theorem dX11_isMost_4 : ml_d cX11_isMost 4 (.invokestatic 100) 3 7 := ⟨by decide +kernel, rfl⟩
theorem dX11_isMost_7 : ml_d cX11_isMost 7 (.ireturn) 1 8 := ⟨by decide +kernel, rfl⟩
def fX11_isMost (l0 : Int32) (m : ml_M) : Option Int32 :=
    ml_b1 (fX11_in l0 (0 : Int32) (20 : Int32) m) fun r2499 =>
    if r2499 = 0 ∨ r2499 = 1 then some r2499 else none
theorem wX11_isMost_0 {E : ml_E} (hL : ml_eL E = 1) {rv : Int32} {m : ml_M} (hr : ∀ (pc pc' : Nat) (lv : List (Nat × ml_X)), ml_d cX11_isMost pc .ireturn 1 pc' → (rv = 0 ∨ rv = 1) → ml_V E "LostRoomModel" cX11_isMost 3 false m pc lv [ml_i rv]) : ∀ (l0 : Int32), fX11_isMost l0 m = some rv → ml_V E "LostRoomModel" cX11_isMost 3 false m 0 [(0, ml_i l0)] [] := by
  intro l0 h
  unfold fX11_isMost at h
  exact ml_iload_n dX11_isMost_0 0 rfl <| ml_iconst dX11_isMost_1 kc_i0 <| ml_bipush dX11_isMost_2 kc_b20 <| ml_b1_of h fun r2499 hv2498 h => ml_callS dX11_isMost_4 wm_136 wb_100 (sX11_in hv2498) rfl (Nat.le_of_ble_eq_true rfl) (Nat.le_of_ble_eq_true rfl) rfl <| ml_ck_of h fun hz2500 h => ml_rp (mk := ml_i) hr dX11_isMost_7 (fun e => e ▸ hz2500) h
theorem sX11_isMost {l0 : Int32} {m : ml_M} {rv : Int32} (h : fX11_isMost l0 m = some rv) : ml_Sn yX11_isMost cX11_isMost 1 (some .boolean) 3 [ml_i l0] m (some (ml_i rv)) m :=
  ml_Sn_of (P := (rv = 0 ∨ rv = 1)) (ini := false) (by decide +kernel) (Nat.le_of_ble_eq_true rfl) (fun h => by cases h) (fun hz => ml_RkZ rv hz) fun E hL hr => wX11_isMost_0 hL hr _ h
theorem dX11_layOften_0 : ml_d cX11_layOften 0 (.aload_n 0) 1 1 := ⟨by decide +kernel, rfl⟩
theorem dX11_layOften_1 : ml_d cX11_layOften 1 (.iconst 0) 1 2 := ⟨by decide +kernel, rfl⟩
theorem dX11_layOften_2 : ml_d cX11_layOften 2 (.putfield 303) 3 5 := ⟨by decide +kernel, rfl⟩
theorem dX11_layOften_5 : ml_d cX11_layOften 5 (.aload_n 0) 1 6 := ⟨by decide +kernel, rfl⟩
theorem dX11_layOften_6 : ml_d cX11_layOften 6 (.iconst 1) 1 7 := ⟨by decide +kernel, rfl⟩
theorem dX11_layOften_7 : ml_d cX11_layOften 7 (.aload_n 0) 1 8 := ⟨by decide +kernel, rfl⟩
theorem dX11_layOften_8 : ml_d cX11_layOften 8 (.getfield 172) 3 11 := ⟨by decide +kernel, rfl⟩
theorem dX11_layOften_11 : ml_d cX11_layOften 11 (.ishl) 1 12 := ⟨by decide +kernel, rfl⟩
theorem dX11_layOften_12 : ml_d cX11_layOften 12 (.iconst 1) 1 13 := ⟨by decide +kernel, rfl⟩
theorem dX11_layOften_13 : ml_d cX11_layOften 13 (.isub) 1 14 := ⟨by decide +kernel, rfl⟩
theorem dX11_layOften_14 : ml_d cX11_layOften 14 (.putfield 306) 3 17 := ⟨by decide +kernel, rfl⟩
theorem dX11_layOften_17 : ml_d cX11_layOften 17 (.aload_n 0) 1 18 := ⟨by decide +kernel, rfl⟩
theorem dX11_layOften_18 : ml_d cX11_layOften 18 (.iconst 0) 1 19 := ⟨by decide +kernel, rfl⟩
theorem dX11_layOften_19 : ml_d cX11_layOften 19 (.putfield 309) 3 22 := ⟨by decide +kernel, rfl⟩
theorem dX11_layOften_22 : ml_d cX11_layOften 22 (.iconst 0) 1 23 := ⟨by decide +kernel, rfl⟩
theorem dX11_layOften_23 : ml_d cX11_layOften 23 (.istore_n 2) 1 24 := ⟨by decide +kernel, rfl⟩
theorem dX11_layOften_24 : ml_d cX11_layOften 24 (.iload_n 2) 1 25 := ⟨by decide +kernel, rfl⟩
theorem dX11_layOften_25 : ml_d cX11_layOften 25 (.bipush 64) 2 27 := ⟨by decide +kernel, rfl⟩
theorem dX11_layOften_27 : ml_j cX11_layOften 27 (.if_icmp .ge) 43 30 := ⟨16, by decide +kernel, by decide, rfl⟩
theorem dX11_layOften_30 : ml_d cX11_layOften 30 (.aload_n 0) 1 31 := ⟨by decide +kernel, rfl⟩
theorem dX11_layOften_31 : ml_d cX11_layOften 31 (.getfield 59) 3 34 := ⟨by decide +kernel, rfl⟩
theorem dX11_layOften_34 : ml_d cX11_layOften 34 (.iload_n 2) 1 35 := ⟨by decide +kernel, rfl⟩
theorem dX11_layOften_35 : ml_d cX11_layOften 35 (.iconst 0) 1 36 := ⟨by decide +kernel, rfl⟩
theorem dX11_layOften_36 : ml_d cX11_layOften 36 (.iastore) 1 37 := ⟨by decide +kernel, rfl⟩
theorem dX11_layOften_37 : ml_d cX11_layOften 37 (.iinc 2 1) 3 40 := ⟨by decide +kernel, rfl⟩
theorem dX11_layOften_40 : ml_j cX11_layOften 40 .goto 24 43 := ⟨(-16), by decide +kernel, by decide, rfl⟩
theorem dX11_layOften_43 : ml_d cX11_layOften 43 (.aload_n 0) 1 44 := ⟨by decide +kernel, rfl⟩
theorem dX11_layOften_44 : ml_d cX11_layOften 44 (.invokevirtual 297) 3 47 := ⟨by decide +kernel, rfl⟩
theorem dX11_layOften_47 : ml_d cX11_layOften 47 (.aload_n 0) 1 48 := ⟨by decide +kernel, rfl⟩
theorem dX11_layOften_48 : ml_d cX11_layOften 48 (.iload_n 1) 1 49 := ⟨by decide +kernel, rfl⟩
theorem dX11_layOften_49 : ml_d cX11_layOften 49 (.invokevirtual 300) 3 52 := ⟨by decide +kernel, rfl⟩
theorem dX11_layOften_52 : ml_j cX11_layOften 52 (.ifCond .eq) 137 55 := ⟨85, by decide +kernel, by decide, rfl⟩
theorem dX11_layOften_55 : ml_d cX11_layOften 55 (.aload_n 0) 1 56 := ⟨by decide +kernel, rfl⟩
theorem dX11_layOften_56 : ml_d cX11_layOften 56 (.dup) 1 57 := ⟨by decide +kernel, rfl⟩
theorem dX11_layOften_57 : ml_d cX11_layOften 57 (.getfield 303) 3 60 := ⟨by decide +kernel, rfl⟩
theorem dX11_layOften_60 : ml_d cX11_layOften 60 (.iconst 1) 1 61 := ⟨by decide +kernel, rfl⟩
theorem dX11_layOften_61 : ml_d cX11_layOften 61 (.iadd) 1 62 := ⟨by decide +kernel, rfl⟩
theorem dX11_layOften_62 : ml_d cX11_layOften 62 (.putfield 303) 3 65 := ⟨by decide +kernel, rfl⟩
theorem dX11_layOften_65 : ml_d cX11_layOften 65 (.iconst 0) 1 66 := ⟨by decide +kernel, rfl⟩
theorem dX11_layOften_66 : ml_d cX11_layOften 66 (.istore_n 2) 1 67 := ⟨by decide +kernel, rfl⟩
theorem dX11_layOften_67 : ml_d cX11_layOften 67 (.iconst 0) 1 68 := ⟨by decide +kernel, rfl⟩
theorem dX11_layOften_68 : ml_d cX11_layOften 68 (.istore_n 3) 1 69 := ⟨by decide +kernel, rfl⟩
theorem dX11_layOften_69 : ml_d cX11_layOften 69 (.iload_n 3) 1 70 := ⟨by decide +kernel, rfl⟩
theorem dX11_layOften_70 : ml_d cX11_layOften 70 (.aload_n 0) 1 71 := ⟨by decide +kernel, rfl⟩
theorem dX11_layOften_71 : ml_d cX11_layOften 71 (.getfield 175) 3 74 := ⟨by decide +kernel, rfl⟩
theorem dX11_layOften_74 : ml_j cX11_layOften 74 (.if_icmp .ge) 114 77 := ⟨40, by decide +kernel, by decide, rfl⟩
theorem dX11_layOften_77 : ml_d cX11_layOften 77 (.aload_n 0) 1 78 := ⟨by decide +kernel, rfl⟩
theorem dX11_layOften_78 : ml_d cX11_layOften 78 (.getfield 59) 3 81 := ⟨by decide +kernel, rfl⟩
theorem dX11_layOften_81 : ml_d cX11_layOften 81 (.bipush 8) 2 83 := ⟨by decide +kernel, rfl⟩
theorem dX11_layOften_83 : ml_d cX11_layOften 83 (.iload_n 3) 1 84 := ⟨by decide +kernel, rfl⟩
theorem dX11_layOften_84 : ml_d cX11_layOften 84 (.imul) 1 85 := ⟨by decide +kernel, rfl⟩
theorem dX11_layOften_85 : ml_d cX11_layOften 85 (.aload_n 0) 1 86 := ⟨by decide +kernel, rfl⟩
theorem dX11_layOften_86 : ml_d cX11_layOften 86 (.getfield 53) 3 89 := ⟨by decide +kernel, rfl⟩
theorem dX11_layOften_89 : ml_d cX11_layOften 89 (.iload_n 3) 1 90 := ⟨by decide +kernel, rfl⟩
theorem dX11_layOften_90 : ml_d cX11_layOften 90 (.iaload) 1 91 := ⟨by decide +kernel, rfl⟩
theorem dX11_layOften_91 : ml_d cX11_layOften 91 (.iadd) 1 92 := ⟨by decide +kernel, rfl⟩
theorem dX11_layOften_92 : ml_d cX11_layOften 92 (.dup2) 1 93 := ⟨by decide +kernel, rfl⟩
theorem dX11_layOften_93 : ml_d cX11_layOften 93 (.iaload) 1 94 := ⟨by decide +kernel, rfl⟩
theorem dX11_layOften_94 : ml_d cX11_layOften 94 (.iconst 1) 1 95 := ⟨by decide +kernel, rfl⟩
theorem dX11_layOften_95 : ml_d cX11_layOften 95 (.iadd) 1 96 := ⟨by decide +kernel, rfl⟩
theorem dX11_layOften_96 : ml_d cX11_layOften 96 (.iastore) 1 97 := ⟨by decide +kernel, rfl⟩
theorem dX11_layOften_97 : ml_d cX11_layOften 97 (.iload_n 2) 1 98 := ⟨by decide +kernel, rfl⟩
theorem dX11_layOften_98 : ml_d cX11_layOften 98 (.iconst 1) 1 99 := ⟨by decide +kernel, rfl⟩
theorem dX11_layOften_99 : ml_d cX11_layOften 99 (.aload_n 0) 1 100 := ⟨by decide +kernel, rfl⟩
theorem dX11_layOften_100 : ml_d cX11_layOften 100 (.getfield 53) 3 103 := ⟨by decide +kernel, rfl⟩
theorem dX11_layOften_103 : ml_d cX11_layOften 103 (.iload_n 3) 1 104 := ⟨by decide +kernel, rfl⟩
theorem dX11_layOften_104 : ml_d cX11_layOften 104 (.iaload) 1 105 := ⟨by decide +kernel, rfl⟩
theorem dX11_layOften_105 : ml_d cX11_layOften 105 (.ishl) 1 106 := ⟨by decide +kernel, rfl⟩
theorem dX11_layOften_106 : ml_d cX11_layOften 106 (.ior) 1 107 := ⟨by decide +kernel, rfl⟩
theorem dX11_layOften_107 : ml_d cX11_layOften 107 (.istore_n 2) 1 108 := ⟨by decide +kernel, rfl⟩
theorem dX11_layOften_108 : ml_d cX11_layOften 108 (.iinc 3 1) 3 111 := ⟨by decide +kernel, rfl⟩
theorem dX11_layOften_111 : ml_j cX11_layOften 111 .goto 69 114 := ⟨(-42), by decide +kernel, by decide, rfl⟩
theorem dX11_layOften_114 : ml_d cX11_layOften 114 (.aload_n 0) 1 115 := ⟨by decide +kernel, rfl⟩
theorem dX11_layOften_115 : ml_d cX11_layOften 115 (.dup) 1 116 := ⟨by decide +kernel, rfl⟩
theorem dX11_layOften_116 : ml_d cX11_layOften 116 (.getfield 306) 3 119 := ⟨by decide +kernel, rfl⟩
theorem dX11_layOften_119 : ml_d cX11_layOften 119 (.iload_n 2) 1 120 := ⟨by decide +kernel, rfl⟩
theorem dX11_layOften_120 : ml_d cX11_layOften 120 (.iand) 1 121 := ⟨by decide +kernel, rfl⟩
theorem dX11_layOften_121 : ml_d cX11_layOften 121 (.putfield 306) 3 124 := ⟨by decide +kernel, rfl⟩
theorem dX11_layOften_124 : ml_d cX11_layOften 124 (.aload_n 0) 1 125 := ⟨by decide +kernel, rfl⟩
theorem dX11_layOften_125 : ml_d cX11_layOften 125 (.dup) 1 126 := ⟨by decide +kernel, rfl⟩
theorem dX11_layOften_126 : ml_d cX11_layOften 126 (.getfield 309) 3 129 := ⟨by decide +kernel, rfl⟩
theorem dX11_layOften_129 : ml_d cX11_layOften 129 (.iload_n 2) 1 130 := ⟨by decide +kernel, rfl⟩
theorem dX11_layOften_130 : ml_d cX11_layOften 130 (.ior) 1 131 := ⟨by decide +kernel, rfl⟩
theorem dX11_layOften_131 : ml_d cX11_layOften 131 (.putfield 309) 3 134 := ⟨by decide +kernel, rfl⟩
theorem dX11_layOften_134 : ml_j cX11_layOften 134 .goto 47 137 := ⟨(-87), by decide +kernel, by decide, rfl⟩
theorem dX11_layOften_137 : ml_d cX11_layOften 137 (.return_) 1 138 := ⟨by decide +kernel, rfl⟩
def fX11_layOften_114 (k47 : Nat → Int32 → ml_M → Option ml_M) (l0 : Nat) (l1 : Int32) (l2 : Int32) (m : ml_M) : Option ml_M :=
    if (ml_K m l0).1 = 11 then
    ml_let (ml_sI m l0 32 ((ml_I m l0 32) &&& l2)) fun m2502 =>
    ml_let (ml_sI m2502 l0 33 ((ml_I m2502 l0 33) ||| l2)) fun m2504 =>
    k47 l0 l1 m2504
    else none
theorem vX11_layOften_114 {E : ml_E} (hL : ml_eL E = 4) {rm : ml_M} (hr : ∀ (pc pc' : Nat) (lv : List (Nat × ml_X)), ml_d cX11_layOften pc .return_ 1 pc' → True → ml_V E "LostRoomModel" cX11_layOften 8 false rm pc lv []) {k47 : Nat → Int32 → ml_M → Option ml_M} (hk47 : ∀ (l0 : Nat) (l1 : Int32) (m : ml_M), k47 l0 l1 m = some rm → ml_V E "LostRoomModel" cX11_layOften 8 false m 47 [(0, ml_r l0), (1, ml_i l1)] []) : ∀ (l0 : Nat) (l1 : Int32) (l2 : Int32) (m : ml_M), fX11_layOften_114 k47 l0 l1 l2 m = some rm → ml_V E "LostRoomModel" cX11_layOften 8 false m 114 [(0, ml_r l0), (1, ml_i l1), (2, ml_i l2)] [] := by
  intro l0 l1 l2 m h
  unfold fX11_layOften_114 at h
  exact ml_aload_n dX11_layOften_114 0 rfl <| ml_dup dX11_layOften_115 rfl <| ml_ck_of h fun hc2501 h => ml_getI dX11_layOften_116 wb_364 hc2501 <| ml_iload_n dX11_layOften_119 2 rfl <| ml_iand dX11_layOften_120 <| ml_putI dX11_layOften_121 wb_365 hc2501 <| ml_lt (m := m) rfl h fun m2502 em2503 h => ml_aload_n dX11_layOften_124 0 rfl <| ml_dup dX11_layOften_125 rfl <| ml_getI dX11_layOften_126 wb_366 (ml_kk em2503 hc2501) <| ml_iload_n dX11_layOften_129 2 rfl <| ml_ior dX11_layOften_130 <| ml_putI dX11_layOften_131 wb_367 (ml_kk em2503 hc2501) <| ml_lt (m := m2502) rfl h fun m2504 em2505 h => ml_goto dX11_layOften_134 <| ml_V.sub [0, 1] rfl (hk47 _ _ _ h)
def fX11_layOften_69 (k47 : Nat → Int32 → ml_M → Option ml_M) : Nat → Nat → Int32 → Int32 → Int32 → ml_M → Option ml_M
  | 0, _, _, _, _, _ => none
  | fu + 1, l0, l1, l2, l3, m =>
    if (ml_K m l0).1 = 11 then
    if (ml_I m l0 10) ≤ l3 then
    fX11_layOften_114 k47 l0 l1 l2 m
    else
    ml_let (ml_R m l0 31) fun a2507 =>
    ml_let (ml_R m l0 27) fun a2508 =>
    if ml_in m a2508 20 l3 then
    if ml_in m a2507 20 (((8 : Int32) * l3) + (ml_I m a2508 l3.toNatClampNeg)) then
    if ml_in m a2507 20 (((8 : Int32) * l3) + (ml_I m a2508 l3.toNatClampNeg)) then
    ml_let (ml_sI m a2507 (((8 : Int32) * l3) + (ml_I m a2508 l3.toNatClampNeg)).toNatClampNeg ((ml_I m a2507 (((8 : Int32) * l3) + (ml_I m a2508 l3.toNatClampNeg)).toNatClampNeg) + (1 : Int32))) fun m2512 =>
    ml_let (ml_R m2512 l0 27) fun a2514 =>
    if ml_in m2512 a2514 20 l3 then
    ml_let (l2 ||| ((1 : Int32) <<< ((ml_I m2512 a2514 l3.toNatClampNeg) &&& 31))) fun x2516 =>
    (fX11_layOften_69 k47 fu) l0 l1 x2516 (l3 + (1 : Int32)) m2512
    else none
    else none
    else none
    else none
    else none
theorem vX11_layOften_69 {E : ml_E} (hL : ml_eL E = 4) {rm : ml_M} (hr : ∀ (pc pc' : Nat) (lv : List (Nat × ml_X)), ml_d cX11_layOften pc .return_ 1 pc' → True → ml_V E "LostRoomModel" cX11_layOften 8 false rm pc lv []) {k47 : Nat → Int32 → ml_M → Option ml_M} (hk47 : ∀ (l0 : Nat) (l1 : Int32) (m : ml_M), k47 l0 l1 m = some rm → ml_V E "LostRoomModel" cX11_layOften 8 false m 47 [(0, ml_r l0), (1, ml_i l1)] []) : ∀ (fu : Nat) (l0 : Nat) (l1 : Int32) (l2 : Int32) (l3 : Int32) (m : ml_M), fX11_layOften_69 k47 fu l0 l1 l2 l3 m = some rm → ml_V E "LostRoomModel" cX11_layOften 8 false m 69 [(0, ml_r l0), (1, ml_i l1), (2, ml_i l2), (3, ml_i l3)] [] := by
  intro fu
  induction fu with
  | zero => intro l0 l1 l2 l3 m h; exact ml_none h
  | succ fu ih =>
    intro l0 l1 l2 l3 m h
    have hk69 := ih
    unfold fX11_layOften_69 at h
    exact ml_iload_n dX11_layOften_69 3 rfl <| ml_aload_n dX11_layOften_70 0 rfl <| ml_ck_of h fun hc2506 h => ml_getI dX11_layOften_71 wb_196 hc2506 <| ml_icmp_ge dX11_layOften_74 h (fun _ h => ml_V.sub [0, 1, 2] rfl (vX11_layOften_114 hL hr hk47 _ _ _ _ h)) (fun _ h => ml_aload_n dX11_layOften_77 0 rfl <| ml_getR dX11_layOften_78 wb_368 hc2506 <| ml_lx (mk := ml_r) h fun a2507 h => ml_bipush dX11_layOften_81 kc_b8 <| ml_iload_n dX11_layOften_83 3 rfl <| ml_imul dX11_layOften_84 <| ml_aload_n dX11_layOften_85 0 rfl <| ml_getR dX11_layOften_86 wb_352 hc2506 <| ml_lx (mk := ml_r) h fun a2508 h => ml_iload_n dX11_layOften_89 3 rfl <| ml_ck_of h fun hi2509 h => ml_iald dX11_layOften_90 hi2509 <| ml_iadd dX11_layOften_91 <| ml_dup2 dX11_layOften_92 rfl rfl <| ml_ck_of h fun hi2510 h => ml_iald dX11_layOften_93 hi2510 <| ml_iconst dX11_layOften_94 kc_i1 <| ml_iadd dX11_layOften_95 <| ml_ck_of h fun hi2511 h => ml_iast dX11_layOften_96 hi2511 <| ml_lt (m := m) rfl h fun m2512 em2513 h => ml_iload_n dX11_layOften_97 2 rfl <| ml_iconst dX11_layOften_98 kc_i1 <| ml_aload_n dX11_layOften_99 0 rfl <| ml_getR dX11_layOften_100 wb_352 (ml_kk em2513 hc2506) <| ml_lx (mk := ml_r) h fun a2514 h => ml_iload_n dX11_layOften_103 3 rfl <| ml_ck_of h fun hi2515 h => ml_iald dX11_layOften_104 hi2515 <| ml_ishl dX11_layOften_105 <| ml_ior dX11_layOften_106 <| ml_lx (mk := ml_i) h fun x2516 h => ml_istore_n (lv' := [(2, ml_i x2516), (0, ml_r l0), (1, ml_i l1), (3, ml_i l3)]) dX11_layOften_107 (ml_hn hL rfl) rfl <| ml_iinc (lv' := [(3, ml_i (l3 + (1 : Int32))), (2, ml_i x2516), (0, ml_r l0), (1, ml_i l1)]) dX11_layOften_108 3 rfl (congrArg (l3 + ·) kc_i1) (ml_hn hL rfl) rfl <| ml_goto dX11_layOften_111 <| ml_V.sub [2, 3, 1, 0] rfl (hk69 _ _ _ _ _ h))
def fX11_layOften_47 : Nat → Nat → Int32 → ml_M → Option ml_M
  | 0, _, _, _ => none
  | fu + 1, l0, l1, m =>
    if (ml_K m l0).1 = 11 then
    ml_b2 (fX11_nextSharing l0 l1 m) fun r2519 m2520 =>
    if r2519 = 0 then
    some m2520
    else
    if (ml_K m2520 l0).1 = 11 then
    ml_let (ml_sI m2520 l0 30 ((ml_I m2520 l0 30) + (1 : Int32))) fun m2522 =>
    fX11_layOften_69 (fX11_layOften_47 fu) ml_fu l0 l1 (0 : Int32) (0 : Int32) m2522
    else none
    else none
theorem vX11_layOften_47 {E : ml_E} (hL : ml_eL E = 4) {rm : ml_M} (hr : ∀ (pc pc' : Nat) (lv : List (Nat × ml_X)), ml_d cX11_layOften pc .return_ 1 pc' → True → ml_V E "LostRoomModel" cX11_layOften 8 false rm pc lv []) : ∀ (fu : Nat) (l0 : Nat) (l1 : Int32) (m : ml_M), fX11_layOften_47 fu l0 l1 m = some rm → ml_V E "LostRoomModel" cX11_layOften 8 false m 47 [(0, ml_r l0), (1, ml_i l1)] [] := by
  intro fu
  induction fu with
  | zero => intro l0 l1 m h; exact ml_none h
  | succ fu ih =>
    intro l0 l1 m h
    have hk47 := ih
    unfold fX11_layOften_47 at h
    exact ml_aload_n dX11_layOften_47 0 rfl <| ml_iload_n dX11_layOften_48 1 rfl <| ml_ck_of h fun hc2518 h => ml_b2_of h fun r2519 m2520 hv2517 h => ml_callV dX11_layOften_49 wm_603 wb_361 hc2518 (sX11_nextSharing hv2517) rfl (Nat.le_of_ble_eq_true rfl) (Nat.le_of_ble_eq_true rfl) rfl <| ml_if_eq dX11_layOften_52 h (fun _ h => ml_rv hr dX11_layOften_137 trivial h) (fun _ h => ml_aload_n dX11_layOften_55 0 rfl <| ml_dup dX11_layOften_56 rfl <| ml_ck_of h fun hc2521 h => ml_getI dX11_layOften_57 wb_369 hc2521 <| ml_iconst dX11_layOften_60 kc_i1 <| ml_iadd dX11_layOften_61 <| ml_putI dX11_layOften_62 wb_370 hc2521 <| ml_lt (m := m2520) rfl h fun m2522 em2523 h => ml_iconst dX11_layOften_65 kc_i0 <| ml_istore_n (lv' := [(2, ml_i (0 : Int32)), (0, ml_r l0), (1, ml_i l1)]) dX11_layOften_66 (ml_hn hL rfl) rfl <| ml_iconst dX11_layOften_67 kc_i0 <| ml_istore_n (lv' := [(3, ml_i (0 : Int32)), (2, ml_i (0 : Int32)), (0, ml_r l0), (1, ml_i l1)]) dX11_layOften_68 (ml_hn hL rfl) rfl <| ml_V.sub [2, 3, 1, 0] rfl (vX11_layOften_69 hL hr hk47 ml_fu _ _ _ _ _ h))
def fX11_layOften_43 (l0 : Nat) (l1 : Int32) (m : ml_M) : Option ml_M :=
    if (ml_K m l0).1 = 11 then
    ml_b1 (fX11_beginSharings l0 m) fun m2526 =>
    fX11_layOften_47 ml_fu l0 l1 m2526
    else none
theorem vX11_layOften_43 {E : ml_E} (hL : ml_eL E = 4) {rm : ml_M} (hr : ∀ (pc pc' : Nat) (lv : List (Nat × ml_X)), ml_d cX11_layOften pc .return_ 1 pc' → True → ml_V E "LostRoomModel" cX11_layOften 8 false rm pc lv []) : ∀ (l0 : Nat) (l1 : Int32) (m : ml_M), fX11_layOften_43 l0 l1 m = some rm → ml_V E "LostRoomModel" cX11_layOften 8 false m 43 [(0, ml_r l0), (1, ml_i l1)] [] := by
  intro l0 l1 m h
  unfold fX11_layOften_43 at h
  exact ml_aload_n dX11_layOften_43 0 rfl <| ml_ck_of h fun hc2525 h => ml_b1_of h fun m2526 hv2524 h => ml_callV dX11_layOften_44 wm_607 wb_362 hc2525 (sX11_beginSharings hv2524) rfl (Nat.le_of_ble_eq_true rfl) (Nat.le_of_ble_eq_true rfl) rfl <| ml_V.sub [0, 1] rfl (vX11_layOften_47 hL hr  ml_fu _ _ _ h)
def fX11_layOften_24 : Nat → Nat → Int32 → Int32 → ml_M → Option ml_M
  | 0, _, _, _, _ => none
  | fu + 1, l0, l1, l2, m =>
    if (64 : Int32) ≤ l2 then
    fX11_layOften_43 l0 l1 m
    else
    if (ml_K m l0).1 = 11 then
    ml_let (ml_R m l0 31) fun a2528 =>
    if ml_in m a2528 20 l2 then
    ml_let (ml_sI m a2528 l2.toNatClampNeg (0 : Int32)) fun m2530 =>
    (fX11_layOften_24 fu) l0 l1 (l2 + (1 : Int32)) m2530
    else none
    else none
theorem vX11_layOften_24 {E : ml_E} (hL : ml_eL E = 4) {rm : ml_M} (hr : ∀ (pc pc' : Nat) (lv : List (Nat × ml_X)), ml_d cX11_layOften pc .return_ 1 pc' → True → ml_V E "LostRoomModel" cX11_layOften 8 false rm pc lv []) : ∀ (fu : Nat) (l0 : Nat) (l1 : Int32) (l2 : Int32) (m : ml_M), fX11_layOften_24 fu l0 l1 l2 m = some rm → ml_V E "LostRoomModel" cX11_layOften 8 false m 24 [(0, ml_r l0), (1, ml_i l1), (2, ml_i l2)] [] := by
  intro fu
  induction fu with
  | zero => intro l0 l1 l2 m h; exact ml_none h
  | succ fu ih =>
    intro l0 l1 l2 m h
    have hk24 := ih
    unfold fX11_layOften_24 at h
    exact ml_iload_n dX11_layOften_24 2 rfl <| ml_bipush dX11_layOften_25 kc_b64 <| ml_icmp_ge dX11_layOften_27 h (fun _ h => ml_V.sub [0, 1] rfl (vX11_layOften_43 hL hr  _ _ _ h)) (fun _ h => ml_aload_n dX11_layOften_30 0 rfl <| ml_ck_of h fun hc2527 h => ml_getR dX11_layOften_31 wb_368 hc2527 <| ml_lx (mk := ml_r) h fun a2528 h => ml_iload_n dX11_layOften_34 2 rfl <| ml_iconst dX11_layOften_35 kc_i0 <| ml_ck_of h fun hi2529 h => ml_iast dX11_layOften_36 hi2529 <| ml_lt (m := m) rfl h fun m2530 em2531 h => ml_iinc (lv' := [(2, ml_i (l2 + (1 : Int32))), (0, ml_r l0), (1, ml_i l1)]) dX11_layOften_37 2 rfl (congrArg (l2 + ·) kc_i1) (ml_hn hL rfl) rfl <| ml_goto dX11_layOften_40 <| ml_V.sub [1, 2, 0] rfl (hk24 _ _ _ _ h))
def fX11_layOften (l0 : Nat) (l1 : Int32) (m : ml_M) : Option ml_M :=
    if (ml_K m l0).1 = 11 then
    ml_let (ml_sI m l0 30 (0 : Int32)) fun m2533 =>
    ml_let (ml_sI m2533 l0 32 (((1 : Int32) <<< ((ml_I m2533 l0 9) &&& 31)) - (1 : Int32))) fun m2535 =>
    ml_let (ml_sI m2535 l0 33 (0 : Int32)) fun m2537 =>
    fX11_layOften_24 ml_fu l0 l1 (0 : Int32) m2537
    else none
theorem wX11_layOften_0 {E : ml_E} (hL : ml_eL E = 4) {rm : ml_M} (hr : ∀ (pc pc' : Nat) (lv : List (Nat × ml_X)), ml_d cX11_layOften pc .return_ 1 pc' → True → ml_V E "LostRoomModel" cX11_layOften 8 false rm pc lv []) : ∀ (l0 : Nat) (l1 : Int32) (m : ml_M), fX11_layOften l0 l1 m = some rm → ml_V E "LostRoomModel" cX11_layOften 8 false m 0 [(0, ml_r l0), (1, ml_i l1)] [] := by
  intro l0 l1 m h
  unfold fX11_layOften at h
  exact ml_aload_n dX11_layOften_0 0 rfl <| ml_iconst dX11_layOften_1 kc_i0 <| ml_ck_of h fun hc2532 h => ml_putI dX11_layOften_2 wb_370 hc2532 <| ml_lt (m := m) rfl h fun m2533 em2534 h => ml_aload_n dX11_layOften_5 0 rfl <| ml_iconst dX11_layOften_6 kc_i1 <| ml_aload_n dX11_layOften_7 0 rfl <| ml_getI dX11_layOften_8 wb_215 (ml_kk em2534 hc2532) <| ml_ishl dX11_layOften_11 <| ml_iconst dX11_layOften_12 kc_i1 <| ml_isub dX11_layOften_13 <| ml_putI dX11_layOften_14 wb_365 (ml_kk em2534 hc2532) <| ml_lt (m := m2533) rfl h fun m2535 em2536 h => ml_aload_n dX11_layOften_17 0 rfl <| ml_iconst dX11_layOften_18 kc_i0 <| ml_putI dX11_layOften_19 wb_367 (ml_kk em2536 (ml_kk em2534 hc2532)) <| ml_lt (m := m2535) rfl h fun m2537 em2538 h => ml_iconst dX11_layOften_22 kc_i0 <| ml_istore_n (lv' := [(2, ml_i (0 : Int32)), (0, ml_r l0), (1, ml_i l1)]) dX11_layOften_23 (ml_hn hL rfl) rfl <| ml_V.sub [1, 2, 0] rfl (vX11_layOften_24 hL hr  ml_fu _ _ _ _ h)
theorem sX11_layOften {l0 : Nat} {l1 : Int32} {m : ml_M} {rm : ml_M} (h : fX11_layOften l0 l1 m = some rm) : ml_Sn yX11_layOften cX11_layOften 4 none 8 [ml_r l0, ml_i l1] m none rm :=
  ml_Sn_of (P := True) (ini := false) (by decide +kernel) (Nat.le_of_ble_eq_true rfl) (fun h => by cases h) (fun _ => ml_RkV) fun E hL hr => wX11_layOften_0 hL hr _ _ _ h
theorem dX11_ways_0 : ml_d cX11_ways 0 (.iload_n 1) 1 1 := ⟨by decide +kernel, rfl⟩
theorem dX11_ways_1 : ml_d cX11_ways 1 (.invokestatic 312) 3 4 := ⟨by decide +kernel, rfl⟩
theorem dX11_ways_4 : ml_j cX11_ways 4 (.ifCond .ne) 9 7 := ⟨5, by decide +kernel, by decide, rfl⟩
theorem dX11_ways_7 : ml_d cX11_ways 7 (.iconst (-1)) 1 8 := ⟨by decide +kernel, rfl⟩
theorem dX11_ways_8 : ml_d cX11_ways 8 (.ireturn) 1 9 := ⟨by decide +kernel, rfl⟩
theorem dX11_ways_9 : ml_d cX11_ways 9 (.aload_n 0) 1 10 := ⟨by decide +kernel, rfl⟩
theorem dX11_ways_10 : ml_d cX11_ways 10 (.iload_n 1) 1 11 := ⟨by decide +kernel, rfl⟩
theorem dX11_ways_11 : ml_d cX11_ways 11 (.invokevirtual 315) 3 14 := ⟨by decide +kernel, rfl⟩
theorem dX11_ways_14 : ml_d cX11_ways 14 (.aload_n 0) 1 15 := ⟨by decide +kernel, rfl⟩
theorem dX11_ways_15 : ml_d cX11_ways 15 (.getfield 303) 3 18 := ⟨by decide +kernel, rfl⟩
theorem dX11_ways_18 : ml_d cX11_ways 18 (.ireturn) 1 19 := ⟨by decide +kernel, rfl⟩
def fX11_ways (l0 : Nat) (l1 : Int32) (m : ml_M) : Option (Int32 × ml_M) :=
    ml_b1 (fX11_isMost l1 m) fun r2540 =>
    if r2540 = 0 then
    some ((-1 : Int32), m)
    else
    if (ml_K m l0).1 = 11 then
    ml_b1 (fX11_layOften l0 l1 m) fun m2543 =>
    if (ml_K m2543 l0).1 = 11 then
    some ((ml_I m2543 l0 30), m2543)
    else none
    else none
theorem wX11_ways_0 {E : ml_E} (hL : ml_eL E = 2) {rv : Int32} {rm : ml_M} (hr : ∀ (pc pc' : Nat) (lv : List (Nat × ml_X)), ml_d cX11_ways pc .ireturn 1 pc' → True → ml_V E "LostRoomModel" cX11_ways 9 false rm pc lv [ml_i rv]) : ∀ (l0 : Nat) (l1 : Int32) (m : ml_M), fX11_ways l0 l1 m = some (rv, rm) → ml_V E "LostRoomModel" cX11_ways 9 false m 0 [(0, ml_r l0), (1, ml_i l1)] [] := by
  intro l0 l1 m h
  unfold fX11_ways at h
  exact ml_iload_n dX11_ways_0 1 rfl <| ml_b1_of h fun r2540 hv2539 h => ml_callS dX11_ways_1 wm_614 wb_371 (sX11_isMost hv2539) rfl (Nat.le_of_ble_eq_true rfl) (Nat.le_of_ble_eq_true rfl) rfl <| ml_if_ne dX11_ways_4 h (fun _ h => ml_aload_n dX11_ways_9 0 rfl <| ml_iload_n dX11_ways_10 1 rfl <| ml_ck_of h fun hc2542 h => ml_b1_of h fun m2543 hv2541 h => ml_callV dX11_ways_11 wm_618 wb_372 hc2542 (sX11_layOften hv2541) rfl (Nat.le_of_ble_eq_true rfl) (Nat.le_of_ble_eq_true rfl) rfl <| ml_aload_n dX11_ways_14 0 rfl <| ml_ck_of h fun hc2544 h => ml_getI dX11_ways_15 wb_369 hc2544 <| ml_rI (mk := ml_i) hr dX11_ways_18 (fun _ => trivial) h) (fun _ h => ml_iconst dX11_ways_7 kc_im1 <| ml_rI (mk := ml_i) hr dX11_ways_8 (fun _ => trivial) h)
theorem sX11_ways {l0 : Nat} {l1 : Int32} {m : ml_M} {rv : Int32} {rm : ml_M} (h : fX11_ways l0 l1 m = some (rv, rm)) : ml_Sn yX11_ways cX11_ways 2 (some .int) 9 [ml_r l0, ml_i l1] m (some (ml_i rv)) rm :=
  ml_Sn_of (P := True) (ini := false) (by decide +kernel) (Nat.le_of_ble_eq_true rfl) (fun h => by cases h) (fun _ => ml_RkI rv) fun E hL hr => wX11_ways_0 hL hr _ _ _ h
theorem dX7_withPair_0 : ml_d cX7_withPair 0 (.aload_n 0) 1 1 := ⟨by decide +kernel, rfl⟩
theorem dX7_withPair_1 : ml_d cX7_withPair 1 (.getfield 22) 3 4 := ⟨by decide +kernel, rfl⟩
theorem dX7_withPair_4 : ml_d cX7_withPair 4 (.iload_n 1) 1 5 := ⟨by decide +kernel, rfl⟩
theorem dX7_withPair_5 : ml_d cX7_withPair 5 (.bipush 64) 2 7 := ⟨by decide +kernel, rfl⟩
theorem dX7_withPair_7 : ml_d cX7_withPair 7 (.imul) 1 8 := ⟨by decide +kernel, rfl⟩
theorem dX7_withPair_8 : ml_d cX7_withPair 8 (.iload_n 2) 1 9 := ⟨by decide +kernel, rfl⟩
theorem dX7_withPair_9 : ml_d cX7_withPair 9 (.bipush 8) 2 11 := ⟨by decide +kernel, rfl⟩
theorem dX7_withPair_11 : ml_d cX7_withPair 11 (.imul) 1 12 := ⟨by decide +kernel, rfl⟩
theorem dX7_withPair_12 : ml_d cX7_withPair 12 (.iadd) 1 13 := ⟨by decide +kernel, rfl⟩
theorem dX7_withPair_13 : ml_d cX7_withPair 13 (.iload_n 3) 1 14 := ⟨by decide +kernel, rfl⟩
theorem dX7_withPair_14 : ml_d cX7_withPair 14 (.iadd) 1 15 := ⟨by decide +kernel, rfl⟩
theorem dX7_withPair_15 : ml_d cX7_withPair 15 (.iaload) 1 16 := ⟨by decide +kernel, rfl⟩
theorem dX7_withPair_16 : ml_d cX7_withPair 16 (.ireturn) 1 17 := ⟨by decide +kernel, rfl⟩
def fX7_withPair (l0 : Nat) (l1 : Int32) (l2 : Int32) (l3 : Int32) (m : ml_M) : Option Int32 :=
    if (ml_K m l0).1 = 7 then
    ml_let (ml_R m l0 4) fun a2546 =>
    if ml_in m a2546 20 (((l1 * (64 : Int32)) + (l2 * (8 : Int32))) + l3) then
    some (ml_I m a2546 (((l1 * (64 : Int32)) + (l2 * (8 : Int32))) + l3).toNatClampNeg)
    else none
    else none
theorem wX7_withPair_0 {E : ml_E} (hL : ml_eL E = 4) {rv : Int32} {m : ml_M} (hr : ∀ (pc pc' : Nat) (lv : List (Nat × ml_X)), ml_d cX7_withPair pc .ireturn 1 pc' → True → ml_V E "LostRoom$Sharings" cX7_withPair 2 false m pc lv [ml_i rv]) : ∀ (l0 : Nat) (l1 : Int32) (l2 : Int32) (l3 : Int32), fX7_withPair l0 l1 l2 l3 m = some rv → ml_V E "LostRoom$Sharings" cX7_withPair 2 false m 0 [(0, ml_r l0), (1, ml_i l1), (2, ml_i l2), (3, ml_i l3)] [] := by
  intro l0 l1 l2 l3 h
  unfold fX7_withPair at h
  exact ml_aload_n dX7_withPair_0 0 rfl <| ml_ck_of h fun hc2545 h => ml_getR dX7_withPair_1 wb_327 hc2545 <| ml_lx (mk := ml_r) h fun a2546 h => ml_iload_n dX7_withPair_4 1 rfl <| ml_bipush dX7_withPair_5 kc_b64 <| ml_imul dX7_withPair_7 <| ml_iload_n dX7_withPair_8 2 rfl <| ml_bipush dX7_withPair_9 kc_b8 <| ml_imul dX7_withPair_11 <| ml_iadd dX7_withPair_12 <| ml_iload_n dX7_withPair_13 3 rfl <| ml_iadd dX7_withPair_14 <| ml_ck_of h fun hi2547 h => ml_iald dX7_withPair_15 hi2547 <| ml_rp (mk := ml_i) hr dX7_withPair_16 (fun _ => trivial) h
theorem sX7_withPair {l0 : Nat} {l1 : Int32} {l2 : Int32} {l3 : Int32} {m : ml_M} {rv : Int32} (h : fX7_withPair l0 l1 l2 l3 m = some rv) : ml_Sn yX7_withPair cX7_withPair 4 (some .int) 2 [ml_r l0, ml_i l1, ml_i l2, ml_i l3] m (some (ml_i rv)) m :=
  ml_Sn_of (P := True) (ini := false) (by decide +kernel) (Nat.le_of_ble_eq_true rfl) (fun h => by cases h) (fun _ => ml_RkI rv) fun E hL hr => wX7_withPair_0 hL hr _ _ _ _ h
theorem dX10_whose_0 : ml_d cX10_whose 0 (.aload_n 0) 1 1 := ⟨by decide +kernel, rfl⟩
theorem dX10_whose_1 : ml_d cX10_whose 1 (.iload_n 1) 1 2 := ⟨by decide +kernel, rfl⟩
theorem dX10_whose_2 : ml_d cX10_whose 2 (.invokevirtual 148) 3 5 := ⟨by decide +kernel, rfl⟩
theorem dX10_whose_5 : ml_j cX10_whose 5 (.ifCond .eq) 18 8 := ⟨13, by decide +kernel, by decide, rfl⟩
theorem dX10_whose_8 : ml_d cX10_whose 8 (.iload_n 2) 1 9 := ⟨by decide +kernel, rfl⟩
theorem dX10_whose_9 : ml_d cX10_whose 9 (.iconst 0) 1 10 := ⟨by decide +kernel, rfl⟩
theorem dX10_whose_10 : ml_d cX10_whose 10 (.bipush 20) 2 12 := ⟨by decide +kernel, rfl⟩
theorem dX10_whose_12 : ml_d cX10_whose 12 (.invokestatic 138) 3 15 := ⟨by decide +kernel, rfl⟩
theorem dX10_whose_15 : ml_j cX10_whose 15 (.ifCond .ne) 20 18 := ⟨5, by decide +kernel, by decide, rfl⟩
theorem dX10_whose_18 : ml_d cX10_whose 18 (.iconst (-1)) 1 19 := ⟨by decide +kernel, rfl⟩
theorem dX10_whose_19 : ml_d cX10_whose 19 (.ireturn) 1 20 := ⟨by decide +kernel, rfl⟩
theorem dX10_whose_20 : ml_d cX10_whose 20 (.aload_n 0) 1 21 := ⟨by decide +kernel, rfl⟩
theorem dX10_whose_21 : ml_d cX10_whose 21 (.invokevirtual 243) 3 24 := ⟨by decide +kernel, rfl⟩
theorem dX10_whose_24 : ml_d cX10_whose 24 (.iconst 0) 1 25 := ⟨by decide +kernel, rfl⟩
theorem dX10_whose_25 : ml_d cX10_whose 25 (.istore_n 3) 1 26 := ⟨by decide +kernel, rfl⟩
theorem dX10_whose_26 : ml_d cX10_whose 26 (.iconst 0) 1 27 := ⟨by decide +kernel, rfl⟩
theorem dX10_whose_27 : ml_d cX10_whose 27 (.istore 4) 2 29 := ⟨by decide +kernel, rfl⟩
theorem dX10_whose_29 : ml_d cX10_whose 29 (.iload 4) 2 31 := ⟨by decide +kernel, rfl⟩
theorem dX10_whose_31 : ml_d cX10_whose 31 (.aload_n 0) 1 32 := ⟨by decide +kernel, rfl⟩
theorem dX10_whose_32 : ml_d cX10_whose 32 (.getfield 26) 3 35 := ⟨by decide +kernel, rfl⟩
theorem dX10_whose_35 : ml_d cX10_whose 35 (.getfield 193) 3 38 := ⟨by decide +kernel, rfl⟩
theorem dX10_whose_38 : ml_j cX10_whose 38 (.if_icmp .ge) 68 41 := ⟨30, by decide +kernel, by decide, rfl⟩
theorem dX10_whose_41 : ml_d cX10_whose 41 (.aload_n 0) 1 42 := ⟨by decide +kernel, rfl⟩
theorem dX10_whose_42 : ml_d cX10_whose 42 (.getfield 61) 3 45 := ⟨by decide +kernel, rfl⟩
theorem dX10_whose_45 : ml_d cX10_whose 45 (.iload_n 2) 1 46 := ⟨by decide +kernel, rfl⟩
theorem dX10_whose_46 : ml_d cX10_whose 46 (.iload_n 1) 1 47 := ⟨by decide +kernel, rfl⟩
theorem dX10_whose_47 : ml_d cX10_whose 47 (.iload 4) 2 49 := ⟨by decide +kernel, rfl⟩
theorem dX10_whose_49 : ml_d cX10_whose 49 (.invokevirtual 259) 3 52 := ⟨by decide +kernel, rfl⟩
theorem dX10_whose_52 : ml_j cX10_whose 52 (.ifCond .le) 62 55 := ⟨10, by decide +kernel, by decide, rfl⟩
theorem dX10_whose_55 : ml_d cX10_whose 55 (.iload_n 3) 1 56 := ⟨by decide +kernel, rfl⟩
theorem dX10_whose_56 : ml_d cX10_whose 56 (.iconst 1) 1 57 := ⟨by decide +kernel, rfl⟩
theorem dX10_whose_57 : ml_d cX10_whose 57 (.iload 4) 2 59 := ⟨by decide +kernel, rfl⟩
theorem dX10_whose_59 : ml_d cX10_whose 59 (.ishl) 1 60 := ⟨by decide +kernel, rfl⟩
theorem dX10_whose_60 : ml_d cX10_whose 60 (.ior) 1 61 := ⟨by decide +kernel, rfl⟩
theorem dX10_whose_61 : ml_d cX10_whose 61 (.istore_n 3) 1 62 := ⟨by decide +kernel, rfl⟩
theorem dX10_whose_62 : ml_d cX10_whose 62 (.iinc 4 1) 3 65 := ⟨by decide +kernel, rfl⟩
theorem dX10_whose_65 : ml_j cX10_whose 65 .goto 29 68 := ⟨(-36), by decide +kernel, by decide, rfl⟩
theorem dX10_whose_68 : ml_d cX10_whose 68 (.iload_n 3) 1 69 := ⟨by decide +kernel, rfl⟩
theorem dX10_whose_69 : ml_d cX10_whose 69 (.ireturn) 1 70 := ⟨by decide +kernel, rfl⟩
def fX10_whose_62 (k29 : Nat → Int32 → Int32 → Int32 → Int32 → ml_M → Option (Int32 × ml_M)) (l0 : Nat) (l1 : Int32) (l2 : Int32) (l3 : Int32) (l4 : Int32) (m : ml_M) : Option (Int32 × ml_M) :=
    k29 l0 l1 l2 l3 (l4 + (1 : Int32)) m
theorem vX10_whose_62 {E : ml_E} (hL : ml_eL E = 5) {rv : Int32} {rm : ml_M} (hr : ∀ (pc pc' : Nat) (lv : List (Nat × ml_X)), ml_d cX10_whose pc .ireturn 1 pc' → True → ml_V E "LostRoom" cX10_whose 19 false rm pc lv [ml_i rv]) {k29 : Nat → Int32 → Int32 → Int32 → Int32 → ml_M → Option (Int32 × ml_M)} (hk29 : ∀ (l0 : Nat) (l1 : Int32) (l2 : Int32) (l3 : Int32) (l4 : Int32) (m : ml_M), k29 l0 l1 l2 l3 l4 m = some (rv, rm) → ml_V E "LostRoom" cX10_whose 19 false m 29 [(0, ml_r l0), (1, ml_i l1), (2, ml_i l2), (3, ml_i l3), (4, ml_i l4)] []) : ∀ (l0 : Nat) (l1 : Int32) (l2 : Int32) (l3 : Int32) (l4 : Int32) (m : ml_M), fX10_whose_62 k29 l0 l1 l2 l3 l4 m = some (rv, rm) → ml_V E "LostRoom" cX10_whose 19 false m 62 [(0, ml_r l0), (1, ml_i l1), (2, ml_i l2), (3, ml_i l3), (4, ml_i l4)] [] := by
  intro l0 l1 l2 l3 l4 m h
  unfold fX10_whose_62 at h
  exact ml_iinc (lv' := [(4, ml_i (l4 + (1 : Int32))), (0, ml_r l0), (1, ml_i l1), (2, ml_i l2), (3, ml_i l3)]) dX10_whose_62 4 rfl (congrArg (l4 + ·) kc_i1) (ml_hn hL rfl) rfl <| ml_goto dX10_whose_65 <| ml_V.sub [1, 2, 3, 4, 0] rfl (hk29 _ _ _ _ _ _ h)
def fX10_whose_29 : Nat → Nat → Int32 → Int32 → Int32 → Int32 → ml_M → Option (Int32 × ml_M)
  | 0, _, _, _, _, _, _ => none
  | fu + 1, l0, l1, l2, l3, l4, m =>
    if (ml_K m l0).1 = 10 then
    ml_let (ml_R m l0 2) fun a2549 =>
    if (ml_K m a2549).1 = 1 then
    if (ml_I m a2549 2) ≤ l4 then
    some (l3, m)
    else
    ml_let (ml_R m l0 12) fun a2551 =>
    if (ml_K m a2551).1 = 7 then
    ml_b1 (fX7_withPair a2551 l2 l1 l4 m) fun r2554 =>
    if r2554 ≤ 0 then
    fX10_whose_62 (fX10_whose_29 fu) l0 l1 l2 l3 l4 m
    else
    ml_let (l3 ||| ((1 : Int32) <<< (l4 &&& 31))) fun x2555 =>
    fX10_whose_62 (fX10_whose_29 fu) l0 l1 l2 x2555 l4 m
    else none
    else none
    else none
theorem vX10_whose_29 {E : ml_E} (hL : ml_eL E = 5) {rv : Int32} {rm : ml_M} (hr : ∀ (pc pc' : Nat) (lv : List (Nat × ml_X)), ml_d cX10_whose pc .ireturn 1 pc' → True → ml_V E "LostRoom" cX10_whose 19 false rm pc lv [ml_i rv]) : ∀ (fu : Nat) (l0 : Nat) (l1 : Int32) (l2 : Int32) (l3 : Int32) (l4 : Int32) (m : ml_M), fX10_whose_29 fu l0 l1 l2 l3 l4 m = some (rv, rm) → ml_V E "LostRoom" cX10_whose 19 false m 29 [(0, ml_r l0), (1, ml_i l1), (2, ml_i l2), (3, ml_i l3), (4, ml_i l4)] [] := by
  intro fu
  induction fu with
  | zero => intro l0 l1 l2 l3 l4 m h; exact ml_none h
  | succ fu ih =>
    intro l0 l1 l2 l3 l4 m h
    have hk29 := ih
    unfold fX10_whose_29 at h
    exact ml_iload dX10_whose_29 4 rfl <| ml_aload_n dX10_whose_31 0 rfl <| ml_ck_of h fun hc2548 h => ml_getR dX10_whose_32 wb_189 hc2548 <| ml_lx (mk := ml_r) h fun a2549 h => ml_ck_of h fun hc2550 h => ml_getI dX10_whose_35 wb_206 hc2550 <| ml_icmp_ge dX10_whose_38 h (fun _ h => ml_iload_n dX10_whose_68 3 rfl <| ml_rI (mk := ml_i) hr dX10_whose_69 (fun _ => trivial) h) (fun _ h => ml_aload_n dX10_whose_41 0 rfl <| ml_getR dX10_whose_42 wb_185 hc2548 <| ml_lx (mk := ml_r) h fun a2551 h => ml_iload_n dX10_whose_45 2 rfl <| ml_iload_n dX10_whose_46 1 rfl <| ml_iload dX10_whose_47 4 rfl <| ml_ck_of h fun hc2553 h => ml_b1_of h fun r2554 hv2552 h => ml_callV dX10_whose_49 wm_622 wb_373 hc2553 (sX7_withPair hv2552) rfl (Nat.le_of_ble_eq_true rfl) (Nat.le_of_ble_eq_true rfl) rfl <| ml_if_le dX10_whose_52 h (fun _ h => ml_V.sub [0, 1, 2, 3, 4] rfl (vX10_whose_62 hL hr hk29 _ _ _ _ _ _ h)) (fun _ h => ml_iload_n dX10_whose_55 3 rfl <| ml_iconst dX10_whose_56 kc_i1 <| ml_iload dX10_whose_57 4 rfl <| ml_ishl dX10_whose_59 <| ml_ior dX10_whose_60 <| ml_lx (mk := ml_i) h fun x2555 h => ml_istore_n (lv' := [(3, ml_i x2555), (0, ml_r l0), (1, ml_i l1), (2, ml_i l2), (4, ml_i l4)]) dX10_whose_61 (ml_hn hL rfl) rfl <| ml_V.sub [1, 2, 3, 0, 4] rfl (vX10_whose_62 hL hr hk29 _ _ _ _ _ _ h)))
def fX10_whose (l0 : Nat) (l1 : Int32) (l2 : Int32) (m : ml_M) : Option (Int32 × ml_M) :=
    if (ml_K m l0).1 = 10 then
    ml_b1 (fX10_isTrunk l0 l1 m) fun r2558 =>
    if r2558 = 0 then
    some ((-1 : Int32), m)
    else
    ml_b1 (fX10_within l2 (0 : Int32) (20 : Int32) m) fun r2560 =>
    if r2560 = 0 then
    some ((-1 : Int32), m)
    else
    ml_b1 (fX10_refreshSharings l0 m) fun m2562 =>
    fX10_whose_29 ml_fu l0 l1 l2 (0 : Int32) (0 : Int32) m2562
    else none
theorem wX10_whose_0 {E : ml_E} (hL : ml_eL E = 5) {rv : Int32} {rm : ml_M} (hr : ∀ (pc pc' : Nat) (lv : List (Nat × ml_X)), ml_d cX10_whose pc .ireturn 1 pc' → True → ml_V E "LostRoom" cX10_whose 19 false rm pc lv [ml_i rv]) : ∀ (l0 : Nat) (l1 : Int32) (l2 : Int32) (m : ml_M), fX10_whose l0 l1 l2 m = some (rv, rm) → ml_V E "LostRoom" cX10_whose 19 false m 0 [(0, ml_r l0), (1, ml_i l1), (2, ml_i l2)] [] := by
  intro l0 l1 l2 m h
  unfold fX10_whose at h
  exact ml_aload_n dX10_whose_0 0 rfl <| ml_iload_n dX10_whose_1 1 rfl <| ml_ck_of h fun hc2557 h => ml_b1_of h fun r2558 hv2556 h => ml_callV dX10_whose_2 wm_317 wb_225 hc2557 (sX10_isTrunk hv2556) rfl (Nat.le_of_ble_eq_true rfl) (Nat.le_of_ble_eq_true rfl) rfl <| ml_if_eq dX10_whose_5 h (fun _ h => ml_iconst dX10_whose_18 kc_im1 <| ml_rI (mk := ml_i) hr dX10_whose_19 (fun _ => trivial) h) (fun _ h => ml_iload_n dX10_whose_8 2 rfl <| ml_iconst dX10_whose_9 kc_i0 <| ml_bipush dX10_whose_10 kc_b20 <| ml_b1_of h fun r2560 hv2559 h => ml_callS dX10_whose_12 wm_124 wb_94 (sX10_within hv2559) rfl (Nat.le_of_ble_eq_true rfl) (Nat.le_of_ble_eq_true rfl) rfl <| ml_if_ne dX10_whose_15 h (fun _ h => ml_aload_n dX10_whose_20 0 rfl <| ml_b1_of h fun m2562 hv2561 h => ml_callV dX10_whose_21 wm_573 wb_348 hc2557 (sX10_refreshSharings hv2561) rfl (Nat.le_of_ble_eq_true rfl) (Nat.le_of_ble_eq_true rfl) rfl <| ml_iconst dX10_whose_24 kc_i0 <| ml_istore_n (lv' := [(3, ml_i (0 : Int32)), (0, ml_r l0), (1, ml_i l1), (2, ml_i l2)]) dX10_whose_25 (ml_hn hL rfl) rfl <| ml_iconst dX10_whose_26 kc_i0 <| ml_istore (lv' := [(4, ml_i (0 : Int32)), (3, ml_i (0 : Int32)), (0, ml_r l0), (1, ml_i l1), (2, ml_i l2)]) dX10_whose_27 (ml_hn hL rfl) rfl <| ml_V.sub [2, 3, 4, 1, 0] rfl (vX10_whose_29 hL hr  ml_fu _ _ _ _ _ _ h)) (fun _ h => ml_iconst dX10_whose_18 kc_im1 <| ml_rI (mk := ml_i) hr dX10_whose_19 (fun _ => trivial) h))
theorem sX10_whose {l0 : Nat} {l1 : Int32} {l2 : Int32} {m : ml_M} {rv : Int32} {rm : ml_M} (h : fX10_whose l0 l1 l2 m = some (rv, rm)) : ml_Sn yX10_whose cX10_whose 5 (some .int) 19 [ml_r l0, ml_i l1, ml_i l2] m (some (ml_i rv)) rm :=
  ml_Sn_of (P := True) (ini := false) (by decide +kernel) (Nat.le_of_ble_eq_true rfl) (fun h => by cases h) (fun _ => ml_RkI rv) fun E hL hr => wX10_whose_0 hL hr _ _ _ _ h
theorem dX11_whose_0 : ml_d cX11_whose 0 (.aload_n 0) 1 1 := ⟨by decide +kernel, rfl⟩
theorem dX11_whose_1 : ml_d cX11_whose 1 (.iload_n 1) 1 2 := ⟨by decide +kernel, rfl⟩
theorem dX11_whose_2 : ml_d cX11_whose 2 (.invokevirtual 199) 3 5 := ⟨by decide +kernel, rfl⟩
theorem dX11_whose_5 : ml_j cX11_whose 5 (.ifCond .eq) 15 8 := ⟨10, by decide +kernel, by decide, rfl⟩
theorem dX11_whose_8 : ml_d cX11_whose 8 (.iload_n 2) 1 9 := ⟨by decide +kernel, rfl⟩
theorem dX11_whose_9 : ml_d cX11_whose 9 (.invokestatic 312) 3 12 := ⟨by decide +kernel, rfl⟩
theorem dX11_whose_12 : ml_j cX11_whose 12 (.ifCond .ne) 17 15 := ⟨5, by decide +kernel, by decide, rfl⟩
theorem dX11_whose_15 : ml_d cX11_whose 15 (.iconst (-1)) 1 16 := ⟨by decide +kernel, rfl⟩
theorem dX11_whose_16 : ml_d cX11_whose 16 (.ireturn) 1 17 := ⟨by decide +kernel, rfl⟩
theorem dX11_whose_17 : ml_d cX11_whose 17 (.aload_n 0) 1 18 := ⟨by decide +kernel, rfl⟩
theorem dX11_whose_18 : ml_d cX11_whose 18 (.iload_n 2) 1 19 := ⟨by decide +kernel, rfl⟩
theorem dX11_whose_19 : ml_d cX11_whose 19 (.invokevirtual 315) 3 22 := ⟨by decide +kernel, rfl⟩
theorem dX11_whose_22 : ml_d cX11_whose 22 (.iconst 0) 1 23 := ⟨by decide +kernel, rfl⟩
theorem dX11_whose_23 : ml_d cX11_whose 23 (.istore_n 3) 1 24 := ⟨by decide +kernel, rfl⟩
theorem dX11_whose_24 : ml_d cX11_whose 24 (.iconst 0) 1 25 := ⟨by decide +kernel, rfl⟩
theorem dX11_whose_25 : ml_d cX11_whose 25 (.istore 4) 2 27 := ⟨by decide +kernel, rfl⟩
theorem dX11_whose_27 : ml_d cX11_whose 27 (.iload 4) 2 29 := ⟨by decide +kernel, rfl⟩
theorem dX11_whose_29 : ml_d cX11_whose 29 (.aload_n 0) 1 30 := ⟨by decide +kernel, rfl⟩
theorem dX11_whose_30 : ml_d cX11_whose 30 (.getfield 172) 3 33 := ⟨by decide +kernel, rfl⟩
theorem dX11_whose_33 : ml_j cX11_whose 33 (.if_icmp .ge) 68 36 := ⟨35, by decide +kernel, by decide, rfl⟩
theorem dX11_whose_36 : ml_d cX11_whose 36 (.iload_n 3) 1 37 := ⟨by decide +kernel, rfl⟩
theorem dX11_whose_37 : ml_d cX11_whose 37 (.aload_n 0) 1 38 := ⟨by decide +kernel, rfl⟩
theorem dX11_whose_38 : ml_d cX11_whose 38 (.getfield 59) 3 41 := ⟨by decide +kernel, rfl⟩
theorem dX11_whose_41 : ml_d cX11_whose 41 (.bipush 8) 2 43 := ⟨by decide +kernel, rfl⟩
theorem dX11_whose_43 : ml_d cX11_whose 43 (.iload_n 1) 1 44 := ⟨by decide +kernel, rfl⟩
theorem dX11_whose_44 : ml_d cX11_whose 44 (.imul) 1 45 := ⟨by decide +kernel, rfl⟩
theorem dX11_whose_45 : ml_d cX11_whose 45 (.iload 4) 2 47 := ⟨by decide +kernel, rfl⟩
theorem dX11_whose_47 : ml_d cX11_whose 47 (.iadd) 1 48 := ⟨by decide +kernel, rfl⟩
theorem dX11_whose_48 : ml_d cX11_whose 48 (.iaload) 1 49 := ⟨by decide +kernel, rfl⟩
theorem dX11_whose_49 : ml_j cX11_whose 49 (.ifCond .le) 59 52 := ⟨10, by decide +kernel, by decide, rfl⟩
theorem dX11_whose_52 : ml_d cX11_whose 52 (.iconst 1) 1 53 := ⟨by decide +kernel, rfl⟩
theorem dX11_whose_53 : ml_d cX11_whose 53 (.iload 4) 2 55 := ⟨by decide +kernel, rfl⟩
theorem dX11_whose_55 : ml_d cX11_whose 55 (.ishl) 1 56 := ⟨by decide +kernel, rfl⟩
theorem dX11_whose_56 : ml_j cX11_whose 56 .goto 60 59 := ⟨4, by decide +kernel, by decide, rfl⟩
theorem dX11_whose_59 : ml_d cX11_whose 59 (.iconst 0) 1 60 := ⟨by decide +kernel, rfl⟩
theorem dX11_whose_60 : ml_d cX11_whose 60 (.ior) 1 61 := ⟨by decide +kernel, rfl⟩
theorem dX11_whose_61 : ml_d cX11_whose 61 (.istore_n 3) 1 62 := ⟨by decide +kernel, rfl⟩
theorem dX11_whose_62 : ml_d cX11_whose 62 (.iinc 4 1) 3 65 := ⟨by decide +kernel, rfl⟩
theorem dX11_whose_65 : ml_j cX11_whose 65 .goto 27 68 := ⟨(-38), by decide +kernel, by decide, rfl⟩
theorem dX11_whose_68 : ml_d cX11_whose 68 (.iload_n 3) 1 69 := ⟨by decide +kernel, rfl⟩
theorem dX11_whose_69 : ml_d cX11_whose 69 (.ireturn) 1 70 := ⟨by decide +kernel, rfl⟩
def fX11_whose_60 (k27 : Nat → Int32 → Int32 → Int32 → ml_M → Option (Int32 × ml_M)) (l0 : Nat) (l1 : Int32) (l4 : Int32) (t0 : Int32) (t1 : Int32) (m : ml_M) : Option (Int32 × ml_M) :=
    ml_let (t1 ||| t0) fun x2563 =>
    k27 l0 l1 x2563 (l4 + (1 : Int32)) m
theorem vX11_whose_60 {E : ml_E} (hL : ml_eL E = 5) {rv : Int32} {rm : ml_M} (hr : ∀ (pc pc' : Nat) (lv : List (Nat × ml_X)), ml_d cX11_whose pc .ireturn 1 pc' → True → ml_V E "LostRoomModel" cX11_whose 9 false rm pc lv [ml_i rv]) {k27 : Nat → Int32 → Int32 → Int32 → ml_M → Option (Int32 × ml_M)} (hk27 : ∀ (l0 : Nat) (l1 : Int32) (l3 : Int32) (l4 : Int32) (m : ml_M), k27 l0 l1 l3 l4 m = some (rv, rm) → ml_V E "LostRoomModel" cX11_whose 9 false m 27 [(0, ml_r l0), (1, ml_i l1), (3, ml_i l3), (4, ml_i l4)] []) : ∀ (l0 : Nat) (l1 : Int32) (l4 : Int32) (t0 : Int32) (t1 : Int32) (m : ml_M), fX11_whose_60 k27 l0 l1 l4 t0 t1 m = some (rv, rm) → ml_V E "LostRoomModel" cX11_whose 9 false m 60 [(0, ml_r l0), (1, ml_i l1), (4, ml_i l4)] [ml_i t0, ml_i t1] := by
  intro l0 l1 l4 t0 t1 m h
  unfold fX11_whose_60 at h
  exact ml_ior dX11_whose_60 <| ml_lx (mk := ml_i) h fun x2563 h => ml_istore_n (lv' := [(3, ml_i x2563), (0, ml_r l0), (1, ml_i l1), (4, ml_i l4)]) dX11_whose_61 (ml_hn hL rfl) rfl <| ml_iinc (lv' := [(4, ml_i (l4 + (1 : Int32))), (3, ml_i x2563), (0, ml_r l0), (1, ml_i l1)]) dX11_whose_62 3 rfl (congrArg (l4 + ·) kc_i1) (ml_hn hL rfl) rfl <| ml_goto dX11_whose_65 <| ml_V.sub [2, 3, 1, 0] rfl (hk27 _ _ _ _ _ h)
def fX11_whose_27 : Nat → Nat → Int32 → Int32 → Int32 → ml_M → Option (Int32 × ml_M)
  | 0, _, _, _, _, _ => none
  | fu + 1, l0, l1, l3, l4, m =>
    if (ml_K m l0).1 = 11 then
    if (ml_I m l0 9) ≤ l4 then
    some (l3, m)
    else
    ml_let (ml_R m l0 31) fun a2565 =>
    if ml_in m a2565 20 (((8 : Int32) * l1) + l4) then
    if (ml_I m a2565 (((8 : Int32) * l1) + l4).toNatClampNeg) ≤ 0 then
    fX11_whose_60 (fX11_whose_27 fu) l0 l1 l4 (0 : Int32) l3 m
    else
    fX11_whose_60 (fX11_whose_27 fu) l0 l1 l4 ((1 : Int32) <<< (l4 &&& 31)) l3 m
    else none
    else none
theorem vX11_whose_27 {E : ml_E} (hL : ml_eL E = 5) {rv : Int32} {rm : ml_M} (hr : ∀ (pc pc' : Nat) (lv : List (Nat × ml_X)), ml_d cX11_whose pc .ireturn 1 pc' → True → ml_V E "LostRoomModel" cX11_whose 9 false rm pc lv [ml_i rv]) : ∀ (fu : Nat) (l0 : Nat) (l1 : Int32) (l3 : Int32) (l4 : Int32) (m : ml_M), fX11_whose_27 fu l0 l1 l3 l4 m = some (rv, rm) → ml_V E "LostRoomModel" cX11_whose 9 false m 27 [(0, ml_r l0), (1, ml_i l1), (3, ml_i l3), (4, ml_i l4)] [] := by
  intro fu
  induction fu with
  | zero => intro l0 l1 l3 l4 m h; exact ml_none h
  | succ fu ih =>
    intro l0 l1 l3 l4 m h
    have hk27 := ih
    unfold fX11_whose_27 at h
    exact ml_iload dX11_whose_27 3 rfl <| ml_aload_n dX11_whose_29 0 rfl <| ml_ck_of h fun hc2564 h => ml_getI dX11_whose_30 wb_215 hc2564 <| ml_icmp_ge dX11_whose_33 h (fun _ h => ml_iload_n dX11_whose_68 2 rfl <| ml_rI (mk := ml_i) hr dX11_whose_69 (fun _ => trivial) h) (fun _ h => ml_iload_n dX11_whose_36 2 rfl <| ml_aload_n dX11_whose_37 0 rfl <| ml_getR dX11_whose_38 wb_368 hc2564 <| ml_lx (mk := ml_r) h fun a2565 h => ml_bipush dX11_whose_41 kc_b8 <| ml_iload_n dX11_whose_43 1 rfl <| ml_imul dX11_whose_44 <| ml_iload dX11_whose_45 3 rfl <| ml_iadd dX11_whose_47 <| ml_ck_of h fun hi2566 h => ml_iald dX11_whose_48 hi2566 <| ml_if_le dX11_whose_49 h (fun _ h => ml_iconst dX11_whose_59 kc_i0 <| ml_V.sub [0, 1, 3] rfl (vX11_whose_60 hL hr hk27 _ _ _ _ _ _ h)) (fun _ h => ml_iconst dX11_whose_52 kc_i1 <| ml_iload dX11_whose_53 3 rfl <| ml_ishl dX11_whose_55 <| ml_goto dX11_whose_56 <| ml_V.sub [0, 1, 3] rfl (vX11_whose_60 hL hr hk27 _ _ _ _ _ _ h)))
def fX11_whose (l0 : Nat) (l1 : Int32) (l2 : Int32) (m : ml_M) : Option (Int32 × ml_M) :=
    if (ml_K m l0).1 = 11 then
    ml_b1 (fX11_isTrunk l0 l1 m) fun r2569 =>
    if r2569 = 0 then
    some ((-1 : Int32), m)
    else
    ml_b1 (fX11_isMost l2 m) fun r2571 =>
    if r2571 = 0 then
    some ((-1 : Int32), m)
    else
    ml_b1 (fX11_layOften l0 l2 m) fun m2573 =>
    fX11_whose_27 ml_fu l0 l1 (0 : Int32) (0 : Int32) m2573
    else none
theorem wX11_whose_0 {E : ml_E} (hL : ml_eL E = 5) {rv : Int32} {rm : ml_M} (hr : ∀ (pc pc' : Nat) (lv : List (Nat × ml_X)), ml_d cX11_whose pc .ireturn 1 pc' → True → ml_V E "LostRoomModel" cX11_whose 9 false rm pc lv [ml_i rv]) : ∀ (l0 : Nat) (l1 : Int32) (l2 : Int32) (m : ml_M), fX11_whose l0 l1 l2 m = some (rv, rm) → ml_V E "LostRoomModel" cX11_whose 9 false m 0 [(0, ml_r l0), (1, ml_i l1), (2, ml_i l2)] [] := by
  intro l0 l1 l2 m h
  unfold fX11_whose at h
  exact ml_aload_n dX11_whose_0 0 rfl <| ml_iload_n dX11_whose_1 1 rfl <| ml_ck_of h fun hc2568 h => ml_b1_of h fun r2569 hv2567 h => ml_callV dX11_whose_2 wm_333 wb_232 hc2568 (sX11_isTrunk hv2567) rfl (Nat.le_of_ble_eq_true rfl) (Nat.le_of_ble_eq_true rfl) rfl <| ml_if_eq dX11_whose_5 h (fun _ h => ml_iconst dX11_whose_15 kc_im1 <| ml_rI (mk := ml_i) hr dX11_whose_16 (fun _ => trivial) h) (fun _ h => ml_iload_n dX11_whose_8 2 rfl <| ml_b1_of h fun r2571 hv2570 h => ml_callS dX11_whose_9 wm_614 wb_371 (sX11_isMost hv2570) rfl (Nat.le_of_ble_eq_true rfl) (Nat.le_of_ble_eq_true rfl) rfl <| ml_if_ne dX11_whose_12 h (fun _ h => ml_aload_n dX11_whose_17 0 rfl <| ml_iload_n dX11_whose_18 2 rfl <| ml_b1_of h fun m2573 hv2572 h => ml_callV dX11_whose_19 wm_618 wb_372 hc2568 (sX11_layOften hv2572) rfl (Nat.le_of_ble_eq_true rfl) (Nat.le_of_ble_eq_true rfl) rfl <| ml_iconst dX11_whose_22 kc_i0 <| ml_istore_n (lv' := [(3, ml_i (0 : Int32)), (0, ml_r l0), (1, ml_i l1), (2, ml_i l2)]) dX11_whose_23 (ml_hn hL rfl) rfl <| ml_iconst dX11_whose_24 kc_i0 <| ml_istore (lv' := [(4, ml_i (0 : Int32)), (3, ml_i (0 : Int32)), (0, ml_r l0), (1, ml_i l1), (2, ml_i l2)]) dX11_whose_25 (ml_hn hL rfl) rfl <| ml_V.sub [2, 3, 1, 0] rfl (vX11_whose_27 hL hr  ml_fu _ _ _ _ _ h)) (fun _ h => ml_iconst dX11_whose_15 kc_im1 <| ml_rI (mk := ml_i) hr dX11_whose_16 (fun _ => trivial) h))
theorem sX11_whose {l0 : Nat} {l1 : Int32} {l2 : Int32} {m : ml_M} {rv : Int32} {rm : ml_M} (h : fX11_whose l0 l1 l2 m = some (rv, rm)) : ml_Sn yX11_whose cX11_whose 5 (some .int) 9 [ml_r l0, ml_i l1, ml_i l2] m (some (ml_i rv)) rm :=
  ml_Sn_of (P := True) (ini := false) (by decide +kernel) (Nat.le_of_ble_eq_true rfl) (fun h => by cases h) (fun _ => ml_RkI rv) fun E hL hr => wX11_whose_0 hL hr _ _ _ _ h
theorem dX10_sure_0 : ml_d cX10_sure 0 (.iload_n 1) 1 1 := ⟨by decide +kernel, rfl⟩
theorem dX10_sure_1 : ml_d cX10_sure 1 (.iconst 0) 1 2 := ⟨by decide +kernel, rfl⟩
theorem dX10_sure_2 : ml_d cX10_sure 2 (.bipush 20) 2 4 := ⟨by decide +kernel, rfl⟩
theorem dX10_sure_4 : ml_d cX10_sure 4 (.invokestatic 138) 3 7 := ⟨by decide +kernel, rfl⟩
theorem dX10_sure_7 : ml_j cX10_sure 7 (.ifCond .ne) 12 10 := ⟨5, by decide +kernel, by decide, rfl⟩
theorem dX10_sure_10 : ml_d cX10_sure 10 (.iconst (-1)) 1 11 := ⟨by decide +kernel, rfl⟩
theorem dX10_sure_11 : ml_d cX10_sure 11 (.ireturn) 1 12 := ⟨by decide +kernel, rfl⟩
theorem dX10_sure_12 : ml_d cX10_sure 12 (.aload_n 0) 1 13 := ⟨by decide +kernel, rfl⟩
theorem dX10_sure_13 : ml_d cX10_sure 13 (.invokevirtual 243) 3 16 := ⟨by decide +kernel, rfl⟩
theorem dX10_sure_16 : ml_d cX10_sure 16 (.aload_n 0) 1 17 := ⟨by decide +kernel, rfl⟩
theorem dX10_sure_17 : ml_d cX10_sure 17 (.getfield 61) 3 20 := ⟨by decide +kernel, rfl⟩
theorem dX10_sure_20 : ml_d cX10_sure 20 (.getfield 256) 3 23 := ⟨by decide +kernel, rfl⟩
theorem dX10_sure_23 : ml_d cX10_sure 23 (.iload_n 1) 1 24 := ⟨by decide +kernel, rfl⟩
theorem dX10_sure_24 : ml_d cX10_sure 24 (.iaload) 1 25 := ⟨by decide +kernel, rfl⟩
theorem dX10_sure_25 : ml_d cX10_sure 25 (.istore_n 2) 1 26 := ⟨by decide +kernel, rfl⟩
theorem dX10_sure_26 : ml_d cX10_sure 26 (.iload_n 2) 1 27 := ⟨by decide +kernel, rfl⟩
theorem dX10_sure_27 : ml_j cX10_sure 27 (.ifCond .ne) 33 30 := ⟨6, by decide +kernel, by decide, rfl⟩
theorem dX10_sure_30 : ml_d cX10_sure 30 (.bipush (-9)) 2 32 := ⟨by decide +kernel, rfl⟩
theorem dX10_sure_32 : ml_d cX10_sure 32 (.ireturn) 1 33 := ⟨by decide +kernel, rfl⟩
theorem dX10_sure_33 : ml_d cX10_sure 33 (.iconst 0) 1 34 := ⟨by decide +kernel, rfl⟩
theorem dX10_sure_34 : ml_d cX10_sure 34 (.istore_n 3) 1 35 := ⟨by decide +kernel, rfl⟩
theorem dX10_sure_35 : ml_d cX10_sure 35 (.iconst 0) 1 36 := ⟨by decide +kernel, rfl⟩
theorem dX10_sure_36 : ml_d cX10_sure 36 (.istore 4) 2 38 := ⟨by decide +kernel, rfl⟩
theorem dX10_sure_38 : ml_d cX10_sure 38 (.iconst 0) 1 39 := ⟨by decide +kernel, rfl⟩
theorem dX10_sure_39 : ml_d cX10_sure 39 (.istore 5) 2 41 := ⟨by decide +kernel, rfl⟩
theorem dX10_sure_41 : ml_d cX10_sure 41 (.iload 5) 2 43 := ⟨by decide +kernel, rfl⟩
theorem dX10_sure_43 : ml_d cX10_sure 43 (.aload_n 0) 1 44 := ⟨by decide +kernel, rfl⟩
theorem dX10_sure_44 : ml_d cX10_sure 44 (.getfield 26) 3 47 := ⟨by decide +kernel, rfl⟩
theorem dX10_sure_47 : ml_d cX10_sure 47 (.getfield 193) 3 50 := ⟨by decide +kernel, rfl⟩
theorem dX10_sure_50 : ml_j cX10_sure 50 (.if_icmp .ge) 127 53 := ⟨77, by decide +kernel, by decide, rfl⟩
theorem dX10_sure_53 : ml_d cX10_sure 53 (.iconst 0) 1 54 := ⟨by decide +kernel, rfl⟩
theorem dX10_sure_54 : ml_d cX10_sure 54 (.istore 6) 2 56 := ⟨by decide +kernel, rfl⟩
theorem dX10_sure_56 : ml_d cX10_sure 56 (.iconst 0) 1 57 := ⟨by decide +kernel, rfl⟩
theorem dX10_sure_57 : ml_d cX10_sure 57 (.istore 7) 2 59 := ⟨by decide +kernel, rfl⟩
theorem dX10_sure_59 : ml_d cX10_sure 59 (.iload 7) 2 61 := ⟨by decide +kernel, rfl⟩
theorem dX10_sure_61 : ml_d cX10_sure 61 (.aload_n 0) 1 62 := ⟨by decide +kernel, rfl⟩
theorem dX10_sure_62 : ml_d cX10_sure 62 (.getfield 26) 3 65 := ⟨by decide +kernel, rfl⟩
theorem dX10_sure_65 : ml_d cX10_sure 65 (.getfield 135) 3 68 := ⟨by decide +kernel, rfl⟩
theorem dX10_sure_68 : ml_j cX10_sure 68 (.if_icmp .ge) 94 71 := ⟨26, by decide +kernel, by decide, rfl⟩
theorem dX10_sure_71 : ml_d cX10_sure 71 (.iload 6) 2 73 := ⟨by decide +kernel, rfl⟩
theorem dX10_sure_73 : ml_d cX10_sure 73 (.aload_n 0) 1 74 := ⟨by decide +kernel, rfl⟩
theorem dX10_sure_74 : ml_d cX10_sure 74 (.getfield 61) 3 77 := ⟨by decide +kernel, rfl⟩
theorem dX10_sure_77 : ml_d cX10_sure 77 (.iload_n 1) 1 78 := ⟨by decide +kernel, rfl⟩
theorem dX10_sure_78 : ml_d cX10_sure 78 (.iload 7) 2 80 := ⟨by decide +kernel, rfl⟩
theorem dX10_sure_80 : ml_d cX10_sure 80 (.iload 5) 2 82 := ⟨by decide +kernel, rfl⟩
theorem dX10_sure_82 : ml_d cX10_sure 82 (.invokevirtual 259) 3 85 := ⟨by decide +kernel, rfl⟩
theorem dX10_sure_85 : ml_d cX10_sure 85 (.iadd) 1 86 := ⟨by decide +kernel, rfl⟩
theorem dX10_sure_86 : ml_d cX10_sure 86 (.istore 6) 2 88 := ⟨by decide +kernel, rfl⟩
theorem dX10_sure_88 : ml_d cX10_sure 88 (.iinc 7 1) 3 91 := ⟨by decide +kernel, rfl⟩
theorem dX10_sure_91 : ml_j cX10_sure 91 .goto 59 94 := ⟨(-32), by decide +kernel, by decide, rfl⟩
theorem dX10_sure_94 : ml_d cX10_sure 94 (.iload 6) 2 96 := ⟨by decide +kernel, rfl⟩
theorem dX10_sure_96 : ml_d cX10_sure 96 (.iload_n 2) 1 97 := ⟨by decide +kernel, rfl⟩
theorem dX10_sure_97 : ml_j cX10_sure 97 (.if_icmp .ne) 107 100 := ⟨10, by decide +kernel, by decide, rfl⟩
theorem dX10_sure_100 : ml_d cX10_sure 100 (.iload_n 3) 1 101 := ⟨by decide +kernel, rfl⟩
theorem dX10_sure_101 : ml_d cX10_sure 101 (.iconst 1) 1 102 := ⟨by decide +kernel, rfl⟩
theorem dX10_sure_102 : ml_d cX10_sure 102 (.iload 5) 2 104 := ⟨by decide +kernel, rfl⟩
theorem dX10_sure_104 : ml_d cX10_sure 104 (.ishl) 1 105 := ⟨by decide +kernel, rfl⟩
theorem dX10_sure_105 : ml_d cX10_sure 105 (.ior) 1 106 := ⟨by decide +kernel, rfl⟩
theorem dX10_sure_106 : ml_d cX10_sure 106 (.istore_n 3) 1 107 := ⟨by decide +kernel, rfl⟩
theorem dX10_sure_107 : ml_d cX10_sure 107 (.iload 6) 2 109 := ⟨by decide +kernel, rfl⟩
theorem dX10_sure_109 : ml_j cX10_sure 109 (.ifCond .le) 121 112 := ⟨12, by decide +kernel, by decide, rfl⟩
theorem dX10_sure_112 : ml_d cX10_sure 112 (.iload 4) 2 114 := ⟨by decide +kernel, rfl⟩
theorem dX10_sure_114 : ml_d cX10_sure 114 (.iconst 1) 1 115 := ⟨by decide +kernel, rfl⟩
theorem dX10_sure_115 : ml_d cX10_sure 115 (.iload 5) 2 117 := ⟨by decide +kernel, rfl⟩
theorem dX10_sure_117 : ml_d cX10_sure 117 (.ishl) 1 118 := ⟨by decide +kernel, rfl⟩
theorem dX10_sure_118 : ml_d cX10_sure 118 (.ior) 1 119 := ⟨by decide +kernel, rfl⟩
theorem dX10_sure_119 : ml_d cX10_sure 119 (.istore 4) 2 121 := ⟨by decide +kernel, rfl⟩
theorem dX10_sure_121 : ml_d cX10_sure 121 (.iinc 5 1) 3 124 := ⟨by decide +kernel, rfl⟩
theorem dX10_sure_124 : ml_j cX10_sure 124 .goto 41 127 := ⟨(-83), by decide +kernel, by decide, rfl⟩
theorem dX10_sure_127 : ml_d cX10_sure 127 (.aload_n 0) 1 128 := ⟨by decide +kernel, rfl⟩
theorem dX10_sure_128 : ml_d cX10_sure 128 (.iload 4) 2 130 := ⟨by decide +kernel, rfl⟩
theorem dX10_sure_130 : ml_d cX10_sure 130 (.putfield 203) 3 133 := ⟨by decide +kernel, rfl⟩
theorem dX10_sure_133 : ml_d cX10_sure 133 (.iload_n 3) 1 134 := ⟨by decide +kernel, rfl⟩
theorem dX10_sure_134 : ml_d cX10_sure 134 (.ireturn) 1 135 := ⟨by decide +kernel, rfl⟩
def fX10_sure_121 (k41 : Nat → Int32 → Int32 → Int32 → Int32 → Int32 → ml_M → Option (Int32 × ml_M)) (l0 : Nat) (l1 : Int32) (l2 : Int32) (l3 : Int32) (l4 : Int32) (l5 : Int32) (m : ml_M) : Option (Int32 × ml_M) :=
    k41 l0 l1 l2 l3 l4 (l5 + (1 : Int32)) m
theorem vX10_sure_121 {E : ml_E} (hL : ml_eL E = 8) {rv : Int32} {rm : ml_M} (hr : ∀ (pc pc' : Nat) (lv : List (Nat × ml_X)), ml_d cX10_sure pc .ireturn 1 pc' → True → ml_V E "LostRoom" cX10_sure 19 false rm pc lv [ml_i rv]) {k41 : Nat → Int32 → Int32 → Int32 → Int32 → Int32 → ml_M → Option (Int32 × ml_M)} (hk41 : ∀ (l0 : Nat) (l1 : Int32) (l2 : Int32) (l3 : Int32) (l4 : Int32) (l5 : Int32) (m : ml_M), k41 l0 l1 l2 l3 l4 l5 m = some (rv, rm) → ml_V E "LostRoom" cX10_sure 19 false m 41 [(0, ml_r l0), (1, ml_i l1), (2, ml_i l2), (3, ml_i l3), (4, ml_i l4), (5, ml_i l5)] []) : ∀ (l0 : Nat) (l1 : Int32) (l2 : Int32) (l3 : Int32) (l4 : Int32) (l5 : Int32) (m : ml_M), fX10_sure_121 k41 l0 l1 l2 l3 l4 l5 m = some (rv, rm) → ml_V E "LostRoom" cX10_sure 19 false m 121 [(0, ml_r l0), (1, ml_i l1), (2, ml_i l2), (3, ml_i l3), (4, ml_i l4), (5, ml_i l5)] [] := by
  intro l0 l1 l2 l3 l4 l5 m h
  unfold fX10_sure_121 at h
  exact ml_iinc (lv' := [(5, ml_i (l5 + (1 : Int32))), (0, ml_r l0), (1, ml_i l1), (2, ml_i l2), (3, ml_i l3), (4, ml_i l4)]) dX10_sure_121 5 rfl (congrArg (l5 + ·) kc_i1) (ml_hn hL rfl) rfl <| ml_goto dX10_sure_124 <| ml_V.sub [1, 2, 3, 4, 5, 0] rfl (hk41 _ _ _ _ _ _ _ h)
def fX10_sure_107 (k41 : Nat → Int32 → Int32 → Int32 → Int32 → Int32 → ml_M → Option (Int32 × ml_M)) (l0 : Nat) (l1 : Int32) (l2 : Int32) (l3 : Int32) (l4 : Int32) (l5 : Int32) (l6 : Int32) (m : ml_M) : Option (Int32 × ml_M) :=
    if l6 ≤ 0 then
    fX10_sure_121 k41 l0 l1 l2 l3 l4 l5 m
    else
    ml_let (l4 ||| ((1 : Int32) <<< (l5 &&& 31))) fun x2574 =>
    fX10_sure_121 k41 l0 l1 l2 l3 x2574 l5 m
theorem vX10_sure_107 {E : ml_E} (hL : ml_eL E = 8) {rv : Int32} {rm : ml_M} (hr : ∀ (pc pc' : Nat) (lv : List (Nat × ml_X)), ml_d cX10_sure pc .ireturn 1 pc' → True → ml_V E "LostRoom" cX10_sure 19 false rm pc lv [ml_i rv]) {k41 : Nat → Int32 → Int32 → Int32 → Int32 → Int32 → ml_M → Option (Int32 × ml_M)} (hk41 : ∀ (l0 : Nat) (l1 : Int32) (l2 : Int32) (l3 : Int32) (l4 : Int32) (l5 : Int32) (m : ml_M), k41 l0 l1 l2 l3 l4 l5 m = some (rv, rm) → ml_V E "LostRoom" cX10_sure 19 false m 41 [(0, ml_r l0), (1, ml_i l1), (2, ml_i l2), (3, ml_i l3), (4, ml_i l4), (5, ml_i l5)] []) : ∀ (l0 : Nat) (l1 : Int32) (l2 : Int32) (l3 : Int32) (l4 : Int32) (l5 : Int32) (l6 : Int32) (m : ml_M), fX10_sure_107 k41 l0 l1 l2 l3 l4 l5 l6 m = some (rv, rm) → ml_V E "LostRoom" cX10_sure 19 false m 107 [(0, ml_r l0), (1, ml_i l1), (2, ml_i l2), (3, ml_i l3), (4, ml_i l4), (5, ml_i l5), (6, ml_i l6)] [] := by
  intro l0 l1 l2 l3 l4 l5 l6 m h
  unfold fX10_sure_107 at h
  exact ml_iload dX10_sure_107 6 rfl <| ml_if_le dX10_sure_109 h (fun _ h => ml_V.sub [0, 1, 2, 3, 4, 5] rfl (vX10_sure_121 hL hr hk41 _ _ _ _ _ _ _ h)) (fun _ h => ml_iload dX10_sure_112 4 rfl <| ml_iconst dX10_sure_114 kc_i1 <| ml_iload dX10_sure_115 5 rfl <| ml_ishl dX10_sure_117 <| ml_ior dX10_sure_118 <| ml_lx (mk := ml_i) h fun x2574 h => ml_istore (lv' := [(4, ml_i x2574), (0, ml_r l0), (1, ml_i l1), (2, ml_i l2), (3, ml_i l3), (5, ml_i l5), (6, ml_i l6)]) dX10_sure_119 (ml_hn hL rfl) rfl <| ml_V.sub [1, 2, 3, 4, 0, 5] rfl (vX10_sure_121 hL hr hk41 _ _ _ _ _ _ _ h))
def fX10_sure_94 (k41 : Nat → Int32 → Int32 → Int32 → Int32 → Int32 → ml_M → Option (Int32 × ml_M)) (l0 : Nat) (l1 : Int32) (l2 : Int32) (l3 : Int32) (l4 : Int32) (l5 : Int32) (l6 : Int32) (m : ml_M) : Option (Int32 × ml_M) :=
    if l6 = l2 then
    ml_let (l3 ||| ((1 : Int32) <<< (l5 &&& 31))) fun x2575 =>
    fX10_sure_107 k41 l0 l1 l2 x2575 l4 l5 l6 m
    else
    fX10_sure_107 k41 l0 l1 l2 l3 l4 l5 l6 m
theorem vX10_sure_94 {E : ml_E} (hL : ml_eL E = 8) {rv : Int32} {rm : ml_M} (hr : ∀ (pc pc' : Nat) (lv : List (Nat × ml_X)), ml_d cX10_sure pc .ireturn 1 pc' → True → ml_V E "LostRoom" cX10_sure 19 false rm pc lv [ml_i rv]) {k41 : Nat → Int32 → Int32 → Int32 → Int32 → Int32 → ml_M → Option (Int32 × ml_M)} (hk41 : ∀ (l0 : Nat) (l1 : Int32) (l2 : Int32) (l3 : Int32) (l4 : Int32) (l5 : Int32) (m : ml_M), k41 l0 l1 l2 l3 l4 l5 m = some (rv, rm) → ml_V E "LostRoom" cX10_sure 19 false m 41 [(0, ml_r l0), (1, ml_i l1), (2, ml_i l2), (3, ml_i l3), (4, ml_i l4), (5, ml_i l5)] []) : ∀ (l0 : Nat) (l1 : Int32) (l2 : Int32) (l3 : Int32) (l4 : Int32) (l5 : Int32) (l6 : Int32) (m : ml_M), fX10_sure_94 k41 l0 l1 l2 l3 l4 l5 l6 m = some (rv, rm) → ml_V E "LostRoom" cX10_sure 19 false m 94 [(0, ml_r l0), (1, ml_i l1), (2, ml_i l2), (3, ml_i l3), (4, ml_i l4), (5, ml_i l5), (6, ml_i l6)] [] := by
  intro l0 l1 l2 l3 l4 l5 l6 m h
  unfold fX10_sure_94 at h
  exact ml_iload dX10_sure_94 6 rfl <| ml_iload_n dX10_sure_96 2 rfl <| ml_icmp_ne dX10_sure_97 h (fun _ h => ml_V.sub [0, 1, 2, 3, 4, 5, 6] rfl (vX10_sure_107 hL hr hk41 _ _ _ _ _ _ _ _ h)) (fun _ h => ml_iload_n dX10_sure_100 3 rfl <| ml_iconst dX10_sure_101 kc_i1 <| ml_iload dX10_sure_102 5 rfl <| ml_ishl dX10_sure_104 <| ml_ior dX10_sure_105 <| ml_lx (mk := ml_i) h fun x2575 h => ml_istore_n (lv' := [(3, ml_i x2575), (0, ml_r l0), (1, ml_i l1), (2, ml_i l2), (4, ml_i l4), (5, ml_i l5), (6, ml_i l6)]) dX10_sure_106 (ml_hn hL rfl) rfl <| ml_V.sub [1, 2, 3, 0, 4, 5, 6] rfl (vX10_sure_107 hL hr hk41 _ _ _ _ _ _ _ _ h))
def fX10_sure_59 (k41 : Nat → Int32 → Int32 → Int32 → Int32 → Int32 → ml_M → Option (Int32 × ml_M)) : Nat → Nat → Int32 → Int32 → Int32 → Int32 → Int32 → Int32 → Int32 → ml_M → Option (Int32 × ml_M)
  | 0, _, _, _, _, _, _, _, _, _ => none
  | fu + 1, l0, l1, l2, l3, l4, l5, l6, l7, m =>
    if (ml_K m l0).1 = 10 then
    ml_let (ml_R m l0 2) fun a2577 =>
    if (ml_K m a2577).1 = 1 then
    if (ml_I m a2577 3) ≤ l7 then
    fX10_sure_94 k41 l0 l1 l2 l3 l4 l5 l6 m
    else
    ml_let (ml_R m l0 12) fun a2579 =>
    if (ml_K m a2579).1 = 7 then
    ml_b1 (fX7_withPair a2579 l1 l7 l5 m) fun r2582 =>
    ml_let (l6 + r2582) fun x2583 =>
    (fX10_sure_59 k41 fu) l0 l1 l2 l3 l4 l5 x2583 (l7 + (1 : Int32)) m
    else none
    else none
    else none
theorem vX10_sure_59 {E : ml_E} (hL : ml_eL E = 8) {rv : Int32} {rm : ml_M} (hr : ∀ (pc pc' : Nat) (lv : List (Nat × ml_X)), ml_d cX10_sure pc .ireturn 1 pc' → True → ml_V E "LostRoom" cX10_sure 19 false rm pc lv [ml_i rv]) {k41 : Nat → Int32 → Int32 → Int32 → Int32 → Int32 → ml_M → Option (Int32 × ml_M)} (hk41 : ∀ (l0 : Nat) (l1 : Int32) (l2 : Int32) (l3 : Int32) (l4 : Int32) (l5 : Int32) (m : ml_M), k41 l0 l1 l2 l3 l4 l5 m = some (rv, rm) → ml_V E "LostRoom" cX10_sure 19 false m 41 [(0, ml_r l0), (1, ml_i l1), (2, ml_i l2), (3, ml_i l3), (4, ml_i l4), (5, ml_i l5)] []) : ∀ (fu : Nat) (l0 : Nat) (l1 : Int32) (l2 : Int32) (l3 : Int32) (l4 : Int32) (l5 : Int32) (l6 : Int32) (l7 : Int32) (m : ml_M), fX10_sure_59 k41 fu l0 l1 l2 l3 l4 l5 l6 l7 m = some (rv, rm) → ml_V E "LostRoom" cX10_sure 19 false m 59 [(0, ml_r l0), (1, ml_i l1), (2, ml_i l2), (3, ml_i l3), (4, ml_i l4), (5, ml_i l5), (6, ml_i l6), (7, ml_i l7)] [] := by
  intro fu
  induction fu with
  | zero => intro l0 l1 l2 l3 l4 l5 l6 l7 m h; exact ml_none h
  | succ fu ih =>
    intro l0 l1 l2 l3 l4 l5 l6 l7 m h
    have hk59 := ih
    unfold fX10_sure_59 at h
    exact ml_iload dX10_sure_59 7 rfl <| ml_aload_n dX10_sure_61 0 rfl <| ml_ck_of h fun hc2576 h => ml_getR dX10_sure_62 wb_189 hc2576 <| ml_lx (mk := ml_r) h fun a2577 h => ml_ck_of h fun hc2578 h => ml_getI dX10_sure_65 wb_190 hc2578 <| ml_icmp_ge dX10_sure_68 h (fun _ h => ml_V.sub [0, 1, 2, 3, 4, 5, 6] rfl (vX10_sure_94 hL hr hk41 _ _ _ _ _ _ _ _ h)) (fun _ h => ml_iload dX10_sure_71 6 rfl <| ml_aload_n dX10_sure_73 0 rfl <| ml_getR dX10_sure_74 wb_185 hc2576 <| ml_lx (mk := ml_r) h fun a2579 h => ml_iload_n dX10_sure_77 1 rfl <| ml_iload dX10_sure_78 7 rfl <| ml_iload dX10_sure_80 5 rfl <| ml_ck_of h fun hc2581 h => ml_b1_of h fun r2582 hv2580 h => ml_callV dX10_sure_82 wm_622 wb_373 hc2581 (sX7_withPair hv2580) rfl (Nat.le_of_ble_eq_true rfl) (Nat.le_of_ble_eq_true rfl) rfl <| ml_iadd dX10_sure_85 <| ml_lx (mk := ml_i) h fun x2583 h => ml_istore (lv' := [(6, ml_i x2583), (0, ml_r l0), (1, ml_i l1), (2, ml_i l2), (3, ml_i l3), (4, ml_i l4), (5, ml_i l5), (7, ml_i l7)]) dX10_sure_86 (ml_hn hL rfl) rfl <| ml_iinc (lv' := [(7, ml_i (l7 + (1 : Int32))), (6, ml_i x2583), (0, ml_r l0), (1, ml_i l1), (2, ml_i l2), (3, ml_i l3), (4, ml_i l4), (5, ml_i l5)]) dX10_sure_88 7 rfl (congrArg (l7 + ·) kc_i1) (ml_hn hL rfl) rfl <| ml_goto dX10_sure_91 <| ml_V.sub [2, 3, 4, 5, 6, 7, 1, 0] rfl (hk59 _ _ _ _ _ _ _ _ _ h))
def fX10_sure_127 (l0 : Nat) (l3 : Int32) (l4 : Int32) (m : ml_M) : Option (Int32 × ml_M) :=
    if (ml_K m l0).1 = 10 then
    ml_let (ml_sI m l0 15 l4) fun m2585 =>
    some (l3, m2585)
    else none
theorem vX10_sure_127 {E : ml_E} (hL : ml_eL E = 8) {rv : Int32} {rm : ml_M} (hr : ∀ (pc pc' : Nat) (lv : List (Nat × ml_X)), ml_d cX10_sure pc .ireturn 1 pc' → True → ml_V E "LostRoom" cX10_sure 19 false rm pc lv [ml_i rv]) : ∀ (l0 : Nat) (l3 : Int32) (l4 : Int32) (m : ml_M), fX10_sure_127 l0 l3 l4 m = some (rv, rm) → ml_V E "LostRoom" cX10_sure 19 false m 127 [(0, ml_r l0), (3, ml_i l3), (4, ml_i l4)] [] := by
  intro l0 l3 l4 m h
  unfold fX10_sure_127 at h
  exact ml_aload_n dX10_sure_127 0 rfl <| ml_iload dX10_sure_128 2 rfl <| ml_ck_of h fun hc2584 h => ml_putI dX10_sure_130 wb_106 hc2584 <| ml_lt (m := m) rfl h fun m2585 em2586 h => ml_iload_n dX10_sure_133 1 rfl <| ml_rI (mk := ml_i) hr dX10_sure_134 (fun _ => trivial) h
def fX10_sure_41 : Nat → Nat → Int32 → Int32 → Int32 → Int32 → Int32 → ml_M → Option (Int32 × ml_M)
  | 0, _, _, _, _, _, _, _ => none
  | fu + 1, l0, l1, l2, l3, l4, l5, m =>
    if (ml_K m l0).1 = 10 then
    ml_let (ml_R m l0 2) fun a2588 =>
    if (ml_K m a2588).1 = 1 then
    if (ml_I m a2588 2) ≤ l5 then
    fX10_sure_127 l0 l3 l4 m
    else
    fX10_sure_59 (fX10_sure_41 fu) ml_fu l0 l1 l2 l3 l4 l5 (0 : Int32) (0 : Int32) m
    else none
    else none
theorem vX10_sure_41 {E : ml_E} (hL : ml_eL E = 8) {rv : Int32} {rm : ml_M} (hr : ∀ (pc pc' : Nat) (lv : List (Nat × ml_X)), ml_d cX10_sure pc .ireturn 1 pc' → True → ml_V E "LostRoom" cX10_sure 19 false rm pc lv [ml_i rv]) : ∀ (fu : Nat) (l0 : Nat) (l1 : Int32) (l2 : Int32) (l3 : Int32) (l4 : Int32) (l5 : Int32) (m : ml_M), fX10_sure_41 fu l0 l1 l2 l3 l4 l5 m = some (rv, rm) → ml_V E "LostRoom" cX10_sure 19 false m 41 [(0, ml_r l0), (1, ml_i l1), (2, ml_i l2), (3, ml_i l3), (4, ml_i l4), (5, ml_i l5)] [] := by
  intro fu
  induction fu with
  | zero => intro l0 l1 l2 l3 l4 l5 m h; exact ml_none h
  | succ fu ih =>
    intro l0 l1 l2 l3 l4 l5 m h
    have hk41 := ih
    unfold fX10_sure_41 at h
    exact ml_iload dX10_sure_41 5 rfl <| ml_aload_n dX10_sure_43 0 rfl <| ml_ck_of h fun hc2587 h => ml_getR dX10_sure_44 wb_189 hc2587 <| ml_lx (mk := ml_r) h fun a2588 h => ml_ck_of h fun hc2589 h => ml_getI dX10_sure_47 wb_206 hc2589 <| ml_icmp_ge dX10_sure_50 h (fun _ h => ml_V.sub [0, 3, 4] rfl (vX10_sure_127 hL hr  _ _ _ _ h)) (fun _ h => ml_iconst dX10_sure_53 kc_i0 <| ml_istore (lv' := [(6, ml_i (0 : Int32)), (0, ml_r l0), (1, ml_i l1), (2, ml_i l2), (3, ml_i l3), (4, ml_i l4), (5, ml_i l5)]) dX10_sure_54 (ml_hn hL rfl) rfl <| ml_iconst dX10_sure_56 kc_i0 <| ml_istore (lv' := [(7, ml_i (0 : Int32)), (6, ml_i (0 : Int32)), (0, ml_r l0), (1, ml_i l1), (2, ml_i l2), (3, ml_i l3), (4, ml_i l4), (5, ml_i l5)]) dX10_sure_57 (ml_hn hL rfl) rfl <| ml_V.sub [2, 3, 4, 5, 6, 7, 1, 0] rfl (vX10_sure_59 hL hr hk41 ml_fu _ _ _ _ _ _ _ _ _ h))
def fX10_sure (l0 : Nat) (l1 : Int32) (m : ml_M) : Option (Int32 × ml_M) :=
    ml_b1 (fX10_within l1 (0 : Int32) (20 : Int32) m) fun r2591 =>
    if r2591 = 0 then
    some ((-1 : Int32), m)
    else
    if (ml_K m l0).1 = 10 then
    ml_b1 (fX10_refreshSharings l0 m) fun m2594 =>
    if (ml_K m2594 l0).1 = 10 then
    ml_let (ml_R m2594 l0 12) fun a2596 =>
    if (ml_K m2594 a2596).1 = 7 then
    ml_let (ml_R m2594 a2596 3) fun a2598 =>
    if ml_in m2594 a2598 20 l1 then
    ml_let (ml_I m2594 a2598 l1.toNatClampNeg) fun x2600 =>
    if x2600 = 0 then
    some ((-9 : Int32), m2594)
    else
    fX10_sure_41 ml_fu l0 l1 x2600 (0 : Int32) (0 : Int32) (0 : Int32) m2594
    else none
    else none
    else none
    else none
theorem wX10_sure_0 {E : ml_E} (hL : ml_eL E = 8) {rv : Int32} {rm : ml_M} (hr : ∀ (pc pc' : Nat) (lv : List (Nat × ml_X)), ml_d cX10_sure pc .ireturn 1 pc' → True → ml_V E "LostRoom" cX10_sure 19 false rm pc lv [ml_i rv]) : ∀ (l0 : Nat) (l1 : Int32) (m : ml_M), fX10_sure l0 l1 m = some (rv, rm) → ml_V E "LostRoom" cX10_sure 19 false m 0 [(0, ml_r l0), (1, ml_i l1)] [] := by
  intro l0 l1 m h
  unfold fX10_sure at h
  exact ml_iload_n dX10_sure_0 1 rfl <| ml_iconst dX10_sure_1 kc_i0 <| ml_bipush dX10_sure_2 kc_b20 <| ml_b1_of h fun r2591 hv2590 h => ml_callS dX10_sure_4 wm_124 wb_94 (sX10_within hv2590) rfl (Nat.le_of_ble_eq_true rfl) (Nat.le_of_ble_eq_true rfl) rfl <| ml_if_ne dX10_sure_7 h (fun _ h => ml_aload_n dX10_sure_12 0 rfl <| ml_ck_of h fun hc2593 h => ml_b1_of h fun m2594 hv2592 h => ml_callV dX10_sure_13 wm_573 wb_348 hc2593 (sX10_refreshSharings hv2592) rfl (Nat.le_of_ble_eq_true rfl) (Nat.le_of_ble_eq_true rfl) rfl <| ml_aload_n dX10_sure_16 0 rfl <| ml_ck_of h fun hc2595 h => ml_getR dX10_sure_17 wb_185 hc2595 <| ml_lx (mk := ml_r) h fun a2596 h => ml_ck_of h fun hc2597 h => ml_getR dX10_sure_20 wb_363 hc2597 <| ml_lx (mk := ml_r) h fun a2598 h => ml_iload_n dX10_sure_23 1 rfl <| ml_ck_of h fun hi2599 h => ml_iald dX10_sure_24 hi2599 <| ml_lx (mk := ml_i) h fun x2600 h => ml_istore_n (lv' := [(2, ml_i x2600), (0, ml_r l0), (1, ml_i l1)]) dX10_sure_25 (ml_hn hL rfl) rfl <| ml_iload_n dX10_sure_26 0 rfl <| ml_if_ne dX10_sure_27 h (fun _ h => ml_iconst dX10_sure_33 kc_i0 <| ml_istore_n (lv' := [(3, ml_i (0 : Int32)), (2, ml_i x2600), (0, ml_r l0), (1, ml_i l1)]) dX10_sure_34 (ml_hn hL rfl) rfl <| ml_iconst dX10_sure_35 kc_i0 <| ml_istore (lv' := [(4, ml_i (0 : Int32)), (3, ml_i (0 : Int32)), (2, ml_i x2600), (0, ml_r l0), (1, ml_i l1)]) dX10_sure_36 (ml_hn hL rfl) rfl <| ml_iconst dX10_sure_38 kc_i0 <| ml_istore (lv' := [(5, ml_i (0 : Int32)), (4, ml_i (0 : Int32)), (3, ml_i (0 : Int32)), (2, ml_i x2600), (0, ml_r l0), (1, ml_i l1)]) dX10_sure_39 (ml_hn hL rfl) rfl <| ml_V.sub [4, 5, 3, 2, 1, 0] rfl (vX10_sure_41 hL hr  ml_fu _ _ _ _ _ _ _ h)) (fun _ h => ml_bipush dX10_sure_30 kc_bm9 <| ml_rI (mk := ml_i) hr dX10_sure_32 (fun _ => trivial) h)) (fun _ h => ml_iconst dX10_sure_10 kc_im1 <| ml_rI (mk := ml_i) hr dX10_sure_11 (fun _ => trivial) h)
theorem sX10_sure {l0 : Nat} {l1 : Int32} {m : ml_M} {rv : Int32} {rm : ml_M} (h : fX10_sure l0 l1 m = some (rv, rm)) : ml_Sn yX10_sure cX10_sure 8 (some .int) 19 [ml_r l0, ml_i l1] m (some (ml_i rv)) rm :=
  ml_Sn_of (P := True) (ini := false) (by decide +kernel) (Nat.le_of_ble_eq_true rfl) (fun h => by cases h) (fun _ => ml_RkI rv) fun E hL hr => wX10_sure_0 hL hr _ _ _ h
theorem dX11_sure_0 : ml_d cX11_sure 0 (.iload_n 1) 1 1 := ⟨by decide +kernel, rfl⟩
theorem dX11_sure_1 : ml_d cX11_sure 1 (.invokestatic 312) 3 4 := ⟨by decide +kernel, rfl⟩
theorem dX11_sure_4 : ml_j cX11_sure 4 (.ifCond .ne) 9 7 := ⟨5, by decide +kernel, by decide, rfl⟩
theorem dX11_sure_7 : ml_d cX11_sure 7 (.iconst (-1)) 1 8 := ⟨by decide +kernel, rfl⟩
theorem dX11_sure_8 : ml_d cX11_sure 8 (.ireturn) 1 9 := ⟨by decide +kernel, rfl⟩
theorem dX11_sure_9 : ml_d cX11_sure 9 (.aload_n 0) 1 10 := ⟨by decide +kernel, rfl⟩
theorem dX11_sure_10 : ml_d cX11_sure 10 (.iload_n 1) 1 11 := ⟨by decide +kernel, rfl⟩
theorem dX11_sure_11 : ml_d cX11_sure 11 (.invokevirtual 315) 3 14 := ⟨by decide +kernel, rfl⟩
theorem dX11_sure_14 : ml_d cX11_sure 14 (.aload_n 0) 1 15 := ⟨by decide +kernel, rfl⟩
theorem dX11_sure_15 : ml_d cX11_sure 15 (.getfield 303) 3 18 := ⟨by decide +kernel, rfl⟩
theorem dX11_sure_18 : ml_j cX11_sure 18 (.ifCond .ne) 26 21 := ⟨8, by decide +kernel, by decide, rfl⟩
theorem dX11_sure_21 : ml_d cX11_sure 21 (.bipush (-9)) 2 23 := ⟨by decide +kernel, rfl⟩
theorem dX11_sure_23 : ml_j cX11_sure 23 .goto 38 26 := ⟨15, by decide +kernel, by decide, rfl⟩
theorem dX11_sure_26 : ml_d cX11_sure 26 (.aload_n 0) 1 27 := ⟨by decide +kernel, rfl⟩
theorem dX11_sure_27 : ml_d cX11_sure 27 (.aload_n 0) 1 28 := ⟨by decide +kernel, rfl⟩
theorem dX11_sure_28 : ml_d cX11_sure 28 (.getfield 309) 3 31 := ⟨by decide +kernel, rfl⟩
theorem dX11_sure_31 : ml_d cX11_sure 31 (.aload_n 0) 1 32 := ⟨by decide +kernel, rfl⟩
theorem dX11_sure_32 : ml_d cX11_sure 32 (.getfield 306) 3 35 := ⟨by decide +kernel, rfl⟩
theorem dX11_sure_35 : ml_d cX11_sure 35 (.invokevirtual 123) 3 38 := ⟨by decide +kernel, rfl⟩
theorem dX11_sure_38 : ml_d cX11_sure 38 (.ireturn) 1 39 := ⟨by decide +kernel, rfl⟩
def fX11_sure (l0 : Nat) (l1 : Int32) (m : ml_M) : Option (Int32 × ml_M) :=
    ml_b1 (fX11_isMost l1 m) fun r2602 =>
    if r2602 = 0 then
    some ((-1 : Int32), m)
    else
    if (ml_K m l0).1 = 11 then
    ml_b1 (fX11_layOften l0 l1 m) fun m2605 =>
    if (ml_K m2605 l0).1 = 11 then
    if (ml_I m2605 l0 30) = 0 then
    some ((-9 : Int32), m2605)
    else
    ml_b2 (fX11_tells l0 (ml_I m2605 l0 33) (ml_I m2605 l0 32) m2605) fun r2608 m2609 =>
    some (r2608, m2609)
    else none
    else none
theorem wX11_sure_0 {E : ml_E} (hL : ml_eL E = 2) {rv : Int32} {rm : ml_M} (hr : ∀ (pc pc' : Nat) (lv : List (Nat × ml_X)), ml_d cX11_sure pc .ireturn 1 pc' → True → ml_V E "LostRoomModel" cX11_sure 9 false rm pc lv [ml_i rv]) : ∀ (l0 : Nat) (l1 : Int32) (m : ml_M), fX11_sure l0 l1 m = some (rv, rm) → ml_V E "LostRoomModel" cX11_sure 9 false m 0 [(0, ml_r l0), (1, ml_i l1)] [] := by
  intro l0 l1 m h
  unfold fX11_sure at h
  exact ml_iload_n dX11_sure_0 1 rfl <| ml_b1_of h fun r2602 hv2601 h => ml_callS dX11_sure_1 wm_614 wb_371 (sX11_isMost hv2601) rfl (Nat.le_of_ble_eq_true rfl) (Nat.le_of_ble_eq_true rfl) rfl <| ml_if_ne dX11_sure_4 h (fun _ h => ml_aload_n dX11_sure_9 0 rfl <| ml_iload_n dX11_sure_10 1 rfl <| ml_ck_of h fun hc2604 h => ml_b1_of h fun m2605 hv2603 h => ml_callV dX11_sure_11 wm_618 wb_372 hc2604 (sX11_layOften hv2603) rfl (Nat.le_of_ble_eq_true rfl) (Nat.le_of_ble_eq_true rfl) rfl <| ml_aload_n dX11_sure_14 0 rfl <| ml_ck_of h fun hc2606 h => ml_getI dX11_sure_15 wb_369 hc2606 <| ml_if_ne dX11_sure_18 h (fun _ h => ml_aload_n dX11_sure_26 0 rfl <| ml_aload_n dX11_sure_27 0 rfl <| ml_getI dX11_sure_28 wb_366 hc2606 <| ml_aload_n dX11_sure_31 0 rfl <| ml_getI dX11_sure_32 wb_364 hc2606 <| ml_b2_of h fun r2608 m2609 hv2607 h => ml_callV dX11_sure_35 wm_158 wb_110 hc2606 (sX11_tells hv2607) rfl (Nat.le_of_ble_eq_true rfl) (Nat.le_of_ble_eq_true rfl) rfl <| ml_rI (mk := ml_i) hr dX11_sure_38 (fun _ => trivial) h) (fun _ h => ml_bipush dX11_sure_21 kc_bm9 <| ml_goto dX11_sure_23 <| ml_rI (mk := ml_i) hr dX11_sure_38 (fun _ => trivial) h)) (fun _ h => ml_iconst dX11_sure_7 kc_im1 <| ml_rI (mk := ml_i) hr dX11_sure_8 (fun _ => trivial) h)
theorem sX11_sure {l0 : Nat} {l1 : Int32} {m : ml_M} {rv : Int32} {rm : ml_M} (h : fX11_sure l0 l1 m = some (rv, rm)) : ml_Sn yX11_sure cX11_sure 2 (some .int) 9 [ml_r l0, ml_i l1] m (some (ml_i rv)) rm :=
  ml_Sn_of (P := True) (ini := false) (by decide +kernel) (Nat.le_of_ble_eq_true rfl) (fun h => by cases h) (fun _ => ml_RkI rv) fun E hL hr => wX11_sure_0 hL hr _ _ _ h
theorem dX10_next_0 : ml_d cX10_next 0 (.iload_n 1) 1 1 := ⟨by decide +kernel, rfl⟩
theorem dX10_next_1 : ml_d cX10_next 1 (.iconst 0) 1 2 := ⟨by decide +kernel, rfl⟩
theorem dX10_next_2 : ml_d cX10_next 2 (.bipush 20) 2 4 := ⟨by decide +kernel, rfl⟩
theorem dX10_next_4 : ml_d cX10_next 4 (.invokestatic 138) 3 7 := ⟨by decide +kernel, rfl⟩
theorem dX10_next_7 : ml_j cX10_next 7 (.ifCond .ne) 12 10 := ⟨5, by decide +kernel, by decide, rfl⟩
theorem dX10_next_10 : ml_d cX10_next 10 (.iconst (-1)) 1 11 := ⟨by decide +kernel, rfl⟩
theorem dX10_next_11 : ml_d cX10_next 11 (.ireturn) 1 12 := ⟨by decide +kernel, rfl⟩
theorem dX10_next_12 : ml_d cX10_next 12 (.aload_n 0) 1 13 := ⟨by decide +kernel, rfl⟩
theorem dX10_next_13 : ml_d cX10_next 13 (.invokevirtual 243) 3 16 := ⟨by decide +kernel, rfl⟩
theorem dX10_next_16 : ml_d cX10_next 16 (.aload_n 0) 1 17 := ⟨by decide +kernel, rfl⟩
theorem dX10_next_17 : ml_d cX10_next 17 (.getfield 61) 3 20 := ⟨by decide +kernel, rfl⟩
theorem dX10_next_20 : ml_d cX10_next 20 (.getfield 256) 3 23 := ⟨by decide +kernel, rfl⟩
theorem dX10_next_23 : ml_d cX10_next 23 (.iload_n 1) 1 24 := ⟨by decide +kernel, rfl⟩
theorem dX10_next_24 : ml_d cX10_next 24 (.iaload) 1 25 := ⟨by decide +kernel, rfl⟩
theorem dX10_next_25 : ml_j cX10_next 25 (.ifCond .eq) 38 28 := ⟨13, by decide +kernel, by decide, rfl⟩
theorem dX10_next_28 : ml_d cX10_next 28 (.aload_n 0) 1 29 := ⟨by decide +kernel, rfl⟩
theorem dX10_next_29 : ml_d cX10_next 29 (.getfield 26) 3 32 := ⟨by decide +kernel, rfl⟩
theorem dX10_next_32 : ml_d cX10_next 32 (.getfield 135) 3 35 := ⟨by decide +kernel, rfl⟩
theorem dX10_next_35 : ml_j cX10_next 35 (.ifCond .ne) 41 38 := ⟨6, by decide +kernel, by decide, rfl⟩
theorem dX10_next_38 : ml_d cX10_next 38 (.bipush (-9)) 2 40 := ⟨by decide +kernel, rfl⟩
theorem dX10_next_40 : ml_d cX10_next 40 (.ireturn) 1 41 := ⟨by decide +kernel, rfl⟩
theorem dX10_next_41 : ml_d cX10_next 41 (.bipush (-9)) 2 43 := ⟨by decide +kernel, rfl⟩
theorem dX10_next_43 : ml_d cX10_next 43 (.istore_n 2) 1 44 := ⟨by decide +kernel, rfl⟩
theorem dX10_next_44 : ml_d cX10_next 44 (.iconst 0) 1 45 := ⟨by decide +kernel, rfl⟩
theorem dX10_next_45 : ml_d cX10_next 45 (.istore_n 3) 1 46 := ⟨by decide +kernel, rfl⟩
theorem dX10_next_46 : ml_d cX10_next 46 (.iconst 0) 1 47 := ⟨by decide +kernel, rfl⟩
theorem dX10_next_47 : ml_d cX10_next 47 (.istore 4) 2 49 := ⟨by decide +kernel, rfl⟩
theorem dX10_next_49 : ml_d cX10_next 49 (.iload 4) 2 51 := ⟨by decide +kernel, rfl⟩
theorem dX10_next_51 : ml_d cX10_next 51 (.aload_n 0) 1 52 := ⟨by decide +kernel, rfl⟩
theorem dX10_next_52 : ml_d cX10_next 52 (.getfield 26) 3 55 := ⟨by decide +kernel, rfl⟩
theorem dX10_next_55 : ml_d cX10_next 55 (.getfield 135) 3 58 := ⟨by decide +kernel, rfl⟩
theorem dX10_next_58 : ml_j cX10_next 58 (.if_icmp .ge) 128 61 := ⟨70, by decide +kernel, by decide, rfl⟩
theorem dX10_next_61 : ml_d cX10_next 61 (.iconst 0) 1 62 := ⟨by decide +kernel, rfl⟩
theorem dX10_next_62 : ml_d cX10_next 62 (.istore 5) 2 64 := ⟨by decide +kernel, rfl⟩
theorem dX10_next_64 : ml_d cX10_next 64 (.iconst 0) 1 65 := ⟨by decide +kernel, rfl⟩
theorem dX10_next_65 : ml_d cX10_next 65 (.istore 6) 2 67 := ⟨by decide +kernel, rfl⟩
theorem dX10_next_67 : ml_d cX10_next 67 (.iload 6) 2 69 := ⟨by decide +kernel, rfl⟩
theorem dX10_next_69 : ml_d cX10_next 69 (.aload_n 0) 1 70 := ⟨by decide +kernel, rfl⟩
theorem dX10_next_70 : ml_d cX10_next 70 (.getfield 26) 3 73 := ⟨by decide +kernel, rfl⟩
theorem dX10_next_73 : ml_d cX10_next 73 (.getfield 193) 3 76 := ⟨by decide +kernel, rfl⟩
theorem dX10_next_76 : ml_j cX10_next 76 (.if_icmp .ge) 104 79 := ⟨28, by decide +kernel, by decide, rfl⟩
theorem dX10_next_79 : ml_d cX10_next 79 (.iload 5) 2 81 := ⟨by decide +kernel, rfl⟩
theorem dX10_next_81 : ml_d cX10_next 81 (.aload_n 0) 1 82 := ⟨by decide +kernel, rfl⟩
theorem dX10_next_82 : ml_d cX10_next 82 (.getfield 61) 3 85 := ⟨by decide +kernel, rfl⟩
theorem dX10_next_85 : ml_d cX10_next 85 (.iload_n 1) 1 86 := ⟨by decide +kernel, rfl⟩
theorem dX10_next_86 : ml_d cX10_next 86 (.iload 4) 2 88 := ⟨by decide +kernel, rfl⟩
theorem dX10_next_88 : ml_d cX10_next 88 (.iload 6) 2 90 := ⟨by decide +kernel, rfl⟩
theorem dX10_next_90 : ml_d cX10_next 90 (.invokevirtual 259) 3 93 := ⟨by decide +kernel, rfl⟩
theorem dX10_next_93 : ml_d cX10_next 93 (.invokestatic 228) 3 96 := ⟨by decide +kernel, rfl⟩
theorem dX10_next_96 : ml_d cX10_next 96 (.istore 5) 2 98 := ⟨by decide +kernel, rfl⟩
theorem dX10_next_98 : ml_d cX10_next 98 (.iinc 6 1) 3 101 := ⟨by decide +kernel, rfl⟩
theorem dX10_next_101 : ml_j cX10_next 101 .goto 67 104 := ⟨(-34), by decide +kernel, by decide, rfl⟩
theorem dX10_next_104 : ml_d cX10_next 104 (.iload_n 2) 1 105 := ⟨by decide +kernel, rfl⟩
theorem dX10_next_105 : ml_d cX10_next 105 (.bipush (-9)) 2 107 := ⟨by decide +kernel, rfl⟩
theorem dX10_next_107 : ml_j cX10_next 107 (.if_icmp .eq) 116 110 := ⟨9, by decide +kernel, by decide, rfl⟩
theorem dX10_next_110 : ml_d cX10_next 110 (.iload 5) 2 112 := ⟨by decide +kernel, rfl⟩
theorem dX10_next_112 : ml_d cX10_next 112 (.iload_n 3) 1 113 := ⟨by decide +kernel, rfl⟩
theorem dX10_next_113 : ml_j cX10_next 113 (.if_icmp .ge) 122 116 := ⟨9, by decide +kernel, by decide, rfl⟩
theorem dX10_next_116 : ml_d cX10_next 116 (.iload 4) 2 118 := ⟨by decide +kernel, rfl⟩
theorem dX10_next_118 : ml_d cX10_next 118 (.istore_n 2) 1 119 := ⟨by decide +kernel, rfl⟩
theorem dX10_next_119 : ml_d cX10_next 119 (.iload 5) 2 121 := ⟨by decide +kernel, rfl⟩
theorem dX10_next_121 : ml_d cX10_next 121 (.istore_n 3) 1 122 := ⟨by decide +kernel, rfl⟩
theorem dX10_next_122 : ml_d cX10_next 122 (.iinc 4 1) 3 125 := ⟨by decide +kernel, rfl⟩
theorem dX10_next_125 : ml_j cX10_next 125 .goto 49 128 := ⟨(-76), by decide +kernel, by decide, rfl⟩
theorem dX10_next_128 : ml_d cX10_next 128 (.aload_n 0) 1 129 := ⟨by decide +kernel, rfl⟩
theorem dX10_next_129 : ml_d cX10_next 129 (.iload_n 3) 1 130 := ⟨by decide +kernel, rfl⟩
theorem dX10_next_130 : ml_d cX10_next 130 (.putfield 203) 3 133 := ⟨by decide +kernel, rfl⟩
theorem dX10_next_133 : ml_d cX10_next 133 (.iload_n 2) 1 134 := ⟨by decide +kernel, rfl⟩
theorem dX10_next_134 : ml_d cX10_next 134 (.ireturn) 1 135 := ⟨by decide +kernel, rfl⟩
def fX10_next_122 (k49 : Nat → Int32 → Int32 → Int32 → Int32 → ml_M → Option (Int32 × ml_M)) (l0 : Nat) (l1 : Int32) (l2 : Int32) (l3 : Int32) (l4 : Int32) (m : ml_M) : Option (Int32 × ml_M) :=
    k49 l0 l1 l2 l3 (l4 + (1 : Int32)) m
theorem vX10_next_122 {E : ml_E} (hL : ml_eL E = 7) {rv : Int32} {rm : ml_M} (hr : ∀ (pc pc' : Nat) (lv : List (Nat × ml_X)), ml_d cX10_next pc .ireturn 1 pc' → True → ml_V E "LostRoom" cX10_next 19 false rm pc lv [ml_i rv]) {k49 : Nat → Int32 → Int32 → Int32 → Int32 → ml_M → Option (Int32 × ml_M)} (hk49 : ∀ (l0 : Nat) (l1 : Int32) (l2 : Int32) (l3 : Int32) (l4 : Int32) (m : ml_M), k49 l0 l1 l2 l3 l4 m = some (rv, rm) → ml_V E "LostRoom" cX10_next 19 false m 49 [(0, ml_r l0), (1, ml_i l1), (2, ml_i l2), (3, ml_i l3), (4, ml_i l4)] []) : ∀ (l0 : Nat) (l1 : Int32) (l2 : Int32) (l3 : Int32) (l4 : Int32) (m : ml_M), fX10_next_122 k49 l0 l1 l2 l3 l4 m = some (rv, rm) → ml_V E "LostRoom" cX10_next 19 false m 122 [(0, ml_r l0), (1, ml_i l1), (2, ml_i l2), (3, ml_i l3), (4, ml_i l4)] [] := by
  intro l0 l1 l2 l3 l4 m h
  unfold fX10_next_122 at h
  exact ml_iinc (lv' := [(4, ml_i (l4 + (1 : Int32))), (0, ml_r l0), (1, ml_i l1), (2, ml_i l2), (3, ml_i l3)]) dX10_next_122 4 rfl (congrArg (l4 + ·) kc_i1) (ml_hn hL rfl) rfl <| ml_goto dX10_next_125 <| ml_V.sub [1, 2, 3, 4, 0] rfl (hk49 _ _ _ _ _ _ h)
def fX10_next_116 (k49 : Nat → Int32 → Int32 → Int32 → Int32 → ml_M → Option (Int32 × ml_M)) (l0 : Nat) (l1 : Int32) (l4 : Int32) (l5 : Int32) (m : ml_M) : Option (Int32 × ml_M) :=
    fX10_next_122 k49 l0 l1 l4 l5 l4 m
theorem vX10_next_116 {E : ml_E} (hL : ml_eL E = 7) {rv : Int32} {rm : ml_M} (hr : ∀ (pc pc' : Nat) (lv : List (Nat × ml_X)), ml_d cX10_next pc .ireturn 1 pc' → True → ml_V E "LostRoom" cX10_next 19 false rm pc lv [ml_i rv]) {k49 : Nat → Int32 → Int32 → Int32 → Int32 → ml_M → Option (Int32 × ml_M)} (hk49 : ∀ (l0 : Nat) (l1 : Int32) (l2 : Int32) (l3 : Int32) (l4 : Int32) (m : ml_M), k49 l0 l1 l2 l3 l4 m = some (rv, rm) → ml_V E "LostRoom" cX10_next 19 false m 49 [(0, ml_r l0), (1, ml_i l1), (2, ml_i l2), (3, ml_i l3), (4, ml_i l4)] []) : ∀ (l0 : Nat) (l1 : Int32) (l4 : Int32) (l5 : Int32) (m : ml_M), fX10_next_116 k49 l0 l1 l4 l5 m = some (rv, rm) → ml_V E "LostRoom" cX10_next 19 false m 116 [(0, ml_r l0), (1, ml_i l1), (4, ml_i l4), (5, ml_i l5)] [] := by
  intro l0 l1 l4 l5 m h
  unfold fX10_next_116 at h
  exact ml_iload dX10_next_116 2 rfl <| ml_istore_n (lv' := [(2, ml_i l4), (0, ml_r l0), (1, ml_i l1), (4, ml_i l4), (5, ml_i l5)]) dX10_next_118 (ml_hn hL rfl) rfl <| ml_iload dX10_next_119 4 rfl <| ml_istore_n (lv' := [(3, ml_i l5), (2, ml_i l4), (0, ml_r l0), (1, ml_i l1), (4, ml_i l4), (5, ml_i l5)]) dX10_next_121 (ml_hn hL rfl) rfl <| ml_V.sub [2, 3, 1, 0, 4] rfl (vX10_next_122 hL hr hk49 _ _ _ _ _ _ h)
def fX10_next_104 (k49 : Nat → Int32 → Int32 → Int32 → Int32 → ml_M → Option (Int32 × ml_M)) (l0 : Nat) (l1 : Int32) (l2 : Int32) (l3 : Int32) (l4 : Int32) (l5 : Int32) (m : ml_M) : Option (Int32 × ml_M) :=
    if l2 = (-9 : Int32) then
    fX10_next_116 k49 l0 l1 l4 l5 m
    else
    if l3 ≤ l5 then
    fX10_next_122 k49 l0 l1 l2 l3 l4 m
    else
    fX10_next_116 k49 l0 l1 l4 l5 m
theorem vX10_next_104 {E : ml_E} (hL : ml_eL E = 7) {rv : Int32} {rm : ml_M} (hr : ∀ (pc pc' : Nat) (lv : List (Nat × ml_X)), ml_d cX10_next pc .ireturn 1 pc' → True → ml_V E "LostRoom" cX10_next 19 false rm pc lv [ml_i rv]) {k49 : Nat → Int32 → Int32 → Int32 → Int32 → ml_M → Option (Int32 × ml_M)} (hk49 : ∀ (l0 : Nat) (l1 : Int32) (l2 : Int32) (l3 : Int32) (l4 : Int32) (m : ml_M), k49 l0 l1 l2 l3 l4 m = some (rv, rm) → ml_V E "LostRoom" cX10_next 19 false m 49 [(0, ml_r l0), (1, ml_i l1), (2, ml_i l2), (3, ml_i l3), (4, ml_i l4)] []) : ∀ (l0 : Nat) (l1 : Int32) (l2 : Int32) (l3 : Int32) (l4 : Int32) (l5 : Int32) (m : ml_M), fX10_next_104 k49 l0 l1 l2 l3 l4 l5 m = some (rv, rm) → ml_V E "LostRoom" cX10_next 19 false m 104 [(0, ml_r l0), (1, ml_i l1), (2, ml_i l2), (3, ml_i l3), (4, ml_i l4), (5, ml_i l5)] [] := by
  intro l0 l1 l2 l3 l4 l5 m h
  unfold fX10_next_104 at h
  exact ml_iload_n dX10_next_104 2 rfl <| ml_bipush dX10_next_105 kc_bm9 <| ml_icmp_eq dX10_next_107 h (fun _ h => ml_V.sub [0, 1, 4, 5] rfl (vX10_next_116 hL hr hk49 _ _ _ _ _ h)) (fun _ h => ml_iload dX10_next_110 5 rfl <| ml_iload_n dX10_next_112 3 rfl <| ml_icmp_ge dX10_next_113 h (fun _ h => ml_V.sub [0, 1, 2, 3, 4] rfl (vX10_next_122 hL hr hk49 _ _ _ _ _ _ h)) (fun _ h => ml_V.sub [0, 1, 4, 5] rfl (vX10_next_116 hL hr hk49 _ _ _ _ _ h)))
def fX10_next_67 (k49 : Nat → Int32 → Int32 → Int32 → Int32 → ml_M → Option (Int32 × ml_M)) : Nat → Nat → Int32 → Int32 → Int32 → Int32 → Int32 → Int32 → ml_M → Option (Int32 × ml_M)
  | 0, _, _, _, _, _, _, _, _ => none
  | fu + 1, l0, l1, l2, l3, l4, l5, l6, m =>
    if (ml_K m l0).1 = 10 then
    ml_let (ml_R m l0 2) fun a2611 =>
    if (ml_K m a2611).1 = 1 then
    if (ml_I m a2611 2) ≤ l6 then
    fX10_next_104 k49 l0 l1 l2 l3 l4 l5 m
    else
    ml_let (ml_R m l0 12) fun a2613 =>
    if (ml_K m a2613).1 = 7 then
    ml_b1 (fX7_withPair a2613 l1 l4 l6 m) fun r2616 =>
    ml_let (if l5 < r2616 then r2616 else l5) fun x2617 =>
    (fX10_next_67 k49 fu) l0 l1 l2 l3 l4 x2617 (l6 + (1 : Int32)) m
    else none
    else none
    else none
theorem vX10_next_67 {E : ml_E} (hL : ml_eL E = 7) {rv : Int32} {rm : ml_M} (hr : ∀ (pc pc' : Nat) (lv : List (Nat × ml_X)), ml_d cX10_next pc .ireturn 1 pc' → True → ml_V E "LostRoom" cX10_next 19 false rm pc lv [ml_i rv]) {k49 : Nat → Int32 → Int32 → Int32 → Int32 → ml_M → Option (Int32 × ml_M)} (hk49 : ∀ (l0 : Nat) (l1 : Int32) (l2 : Int32) (l3 : Int32) (l4 : Int32) (m : ml_M), k49 l0 l1 l2 l3 l4 m = some (rv, rm) → ml_V E "LostRoom" cX10_next 19 false m 49 [(0, ml_r l0), (1, ml_i l1), (2, ml_i l2), (3, ml_i l3), (4, ml_i l4)] []) : ∀ (fu : Nat) (l0 : Nat) (l1 : Int32) (l2 : Int32) (l3 : Int32) (l4 : Int32) (l5 : Int32) (l6 : Int32) (m : ml_M), fX10_next_67 k49 fu l0 l1 l2 l3 l4 l5 l6 m = some (rv, rm) → ml_V E "LostRoom" cX10_next 19 false m 67 [(0, ml_r l0), (1, ml_i l1), (2, ml_i l2), (3, ml_i l3), (4, ml_i l4), (5, ml_i l5), (6, ml_i l6)] [] := by
  intro fu
  induction fu with
  | zero => intro l0 l1 l2 l3 l4 l5 l6 m h; exact ml_none h
  | succ fu ih =>
    intro l0 l1 l2 l3 l4 l5 l6 m h
    have hk67 := ih
    unfold fX10_next_67 at h
    exact ml_iload dX10_next_67 6 rfl <| ml_aload_n dX10_next_69 0 rfl <| ml_ck_of h fun hc2610 h => ml_getR dX10_next_70 wb_189 hc2610 <| ml_lx (mk := ml_r) h fun a2611 h => ml_ck_of h fun hc2612 h => ml_getI dX10_next_73 wb_206 hc2612 <| ml_icmp_ge dX10_next_76 h (fun _ h => ml_V.sub [0, 1, 2, 3, 4, 5] rfl (vX10_next_104 hL hr hk49 _ _ _ _ _ _ _ h)) (fun _ h => ml_iload dX10_next_79 5 rfl <| ml_aload_n dX10_next_81 0 rfl <| ml_getR dX10_next_82 wb_185 hc2610 <| ml_lx (mk := ml_r) h fun a2613 h => ml_iload_n dX10_next_85 1 rfl <| ml_iload dX10_next_86 4 rfl <| ml_iload dX10_next_88 6 rfl <| ml_ck_of h fun hc2615 h => ml_b1_of h fun r2616 hv2614 h => ml_callV dX10_next_90 wm_622 wb_373 hc2615 (sX7_withPair hv2614) rfl (Nat.le_of_ble_eq_true rfl) (Nat.le_of_ble_eq_true rfl) rfl <| ml_mmax dX10_next_93 wb_302 (Nat.le_of_ble_eq_true rfl) (Nat.le_of_ble_eq_true rfl) <| ml_lx (mk := ml_i) h fun x2617 h => ml_istore (lv' := [(5, ml_i x2617), (0, ml_r l0), (1, ml_i l1), (2, ml_i l2), (3, ml_i l3), (4, ml_i l4), (6, ml_i l6)]) dX10_next_96 (ml_hn hL rfl) rfl <| ml_iinc (lv' := [(6, ml_i (l6 + (1 : Int32))), (5, ml_i x2617), (0, ml_r l0), (1, ml_i l1), (2, ml_i l2), (3, ml_i l3), (4, ml_i l4)]) dX10_next_98 6 rfl (congrArg (l6 + ·) kc_i1) (ml_hn hL rfl) rfl <| ml_goto dX10_next_101 <| ml_V.sub [2, 3, 4, 5, 6, 1, 0] rfl (hk67 _ _ _ _ _ _ _ _ h))
def fX10_next_128 (l0 : Nat) (l2 : Int32) (l3 : Int32) (m : ml_M) : Option (Int32 × ml_M) :=
    if (ml_K m l0).1 = 10 then
    ml_let (ml_sI m l0 15 l3) fun m2619 =>
    some (l2, m2619)
    else none
theorem vX10_next_128 {E : ml_E} (hL : ml_eL E = 7) {rv : Int32} {rm : ml_M} (hr : ∀ (pc pc' : Nat) (lv : List (Nat × ml_X)), ml_d cX10_next pc .ireturn 1 pc' → True → ml_V E "LostRoom" cX10_next 19 false rm pc lv [ml_i rv]) : ∀ (l0 : Nat) (l2 : Int32) (l3 : Int32) (m : ml_M), fX10_next_128 l0 l2 l3 m = some (rv, rm) → ml_V E "LostRoom" cX10_next 19 false m 128 [(0, ml_r l0), (2, ml_i l2), (3, ml_i l3)] [] := by
  intro l0 l2 l3 m h
  unfold fX10_next_128 at h
  exact ml_aload_n dX10_next_128 0 rfl <| ml_iload_n dX10_next_129 2 rfl <| ml_ck_of h fun hc2618 h => ml_putI dX10_next_130 wb_106 hc2618 <| ml_lt (m := m) rfl h fun m2619 em2620 h => ml_iload_n dX10_next_133 1 rfl <| ml_rI (mk := ml_i) hr dX10_next_134 (fun _ => trivial) h
def fX10_next_49 : Nat → Nat → Int32 → Int32 → Int32 → Int32 → ml_M → Option (Int32 × ml_M)
  | 0, _, _, _, _, _, _ => none
  | fu + 1, l0, l1, l2, l3, l4, m =>
    if (ml_K m l0).1 = 10 then
    ml_let (ml_R m l0 2) fun a2622 =>
    if (ml_K m a2622).1 = 1 then
    if (ml_I m a2622 3) ≤ l4 then
    fX10_next_128 l0 l2 l3 m
    else
    fX10_next_67 (fX10_next_49 fu) ml_fu l0 l1 l2 l3 l4 (0 : Int32) (0 : Int32) m
    else none
    else none
theorem vX10_next_49 {E : ml_E} (hL : ml_eL E = 7) {rv : Int32} {rm : ml_M} (hr : ∀ (pc pc' : Nat) (lv : List (Nat × ml_X)), ml_d cX10_next pc .ireturn 1 pc' → True → ml_V E "LostRoom" cX10_next 19 false rm pc lv [ml_i rv]) : ∀ (fu : Nat) (l0 : Nat) (l1 : Int32) (l2 : Int32) (l3 : Int32) (l4 : Int32) (m : ml_M), fX10_next_49 fu l0 l1 l2 l3 l4 m = some (rv, rm) → ml_V E "LostRoom" cX10_next 19 false m 49 [(0, ml_r l0), (1, ml_i l1), (2, ml_i l2), (3, ml_i l3), (4, ml_i l4)] [] := by
  intro fu
  induction fu with
  | zero => intro l0 l1 l2 l3 l4 m h; exact ml_none h
  | succ fu ih =>
    intro l0 l1 l2 l3 l4 m h
    have hk49 := ih
    unfold fX10_next_49 at h
    exact ml_iload dX10_next_49 4 rfl <| ml_aload_n dX10_next_51 0 rfl <| ml_ck_of h fun hc2621 h => ml_getR dX10_next_52 wb_189 hc2621 <| ml_lx (mk := ml_r) h fun a2622 h => ml_ck_of h fun hc2623 h => ml_getI dX10_next_55 wb_190 hc2623 <| ml_icmp_ge dX10_next_58 h (fun _ h => ml_V.sub [0, 2, 3] rfl (vX10_next_128 hL hr  _ _ _ _ h)) (fun _ h => ml_iconst dX10_next_61 kc_i0 <| ml_istore (lv' := [(5, ml_i (0 : Int32)), (0, ml_r l0), (1, ml_i l1), (2, ml_i l2), (3, ml_i l3), (4, ml_i l4)]) dX10_next_62 (ml_hn hL rfl) rfl <| ml_iconst dX10_next_64 kc_i0 <| ml_istore (lv' := [(6, ml_i (0 : Int32)), (5, ml_i (0 : Int32)), (0, ml_r l0), (1, ml_i l1), (2, ml_i l2), (3, ml_i l3), (4, ml_i l4)]) dX10_next_65 (ml_hn hL rfl) rfl <| ml_V.sub [2, 3, 4, 5, 6, 1, 0] rfl (vX10_next_67 hL hr hk49 ml_fu _ _ _ _ _ _ _ _ h))
def fX10_next (l0 : Nat) (l1 : Int32) (m : ml_M) : Option (Int32 × ml_M) :=
    ml_b1 (fX10_within l1 (0 : Int32) (20 : Int32) m) fun r2625 =>
    if r2625 = 0 then
    some ((-1 : Int32), m)
    else
    if (ml_K m l0).1 = 10 then
    ml_b1 (fX10_refreshSharings l0 m) fun m2628 =>
    if (ml_K m2628 l0).1 = 10 then
    ml_let (ml_R m2628 l0 12) fun a2630 =>
    if (ml_K m2628 a2630).1 = 7 then
    ml_let (ml_R m2628 a2630 3) fun a2632 =>
    if ml_in m2628 a2632 20 l1 then
    if (ml_I m2628 a2632 l1.toNatClampNeg) = 0 then
    some ((-9 : Int32), m2628)
    else
    ml_let (ml_R m2628 l0 2) fun a2634 =>
    if (ml_K m2628 a2634).1 = 1 then
    if (ml_I m2628 a2634 3) = 0 then
    some ((-9 : Int32), m2628)
    else
    fX10_next_49 ml_fu l0 l1 (-9 : Int32) (0 : Int32) (0 : Int32) m2628
    else none
    else none
    else none
    else none
    else none
theorem wX10_next_0 {E : ml_E} (hL : ml_eL E = 7) {rv : Int32} {rm : ml_M} (hr : ∀ (pc pc' : Nat) (lv : List (Nat × ml_X)), ml_d cX10_next pc .ireturn 1 pc' → True → ml_V E "LostRoom" cX10_next 19 false rm pc lv [ml_i rv]) : ∀ (l0 : Nat) (l1 : Int32) (m : ml_M), fX10_next l0 l1 m = some (rv, rm) → ml_V E "LostRoom" cX10_next 19 false m 0 [(0, ml_r l0), (1, ml_i l1)] [] := by
  intro l0 l1 m h
  unfold fX10_next at h
  exact ml_iload_n dX10_next_0 1 rfl <| ml_iconst dX10_next_1 kc_i0 <| ml_bipush dX10_next_2 kc_b20 <| ml_b1_of h fun r2625 hv2624 h => ml_callS dX10_next_4 wm_124 wb_94 (sX10_within hv2624) rfl (Nat.le_of_ble_eq_true rfl) (Nat.le_of_ble_eq_true rfl) rfl <| ml_if_ne dX10_next_7 h (fun _ h => ml_aload_n dX10_next_12 0 rfl <| ml_ck_of h fun hc2627 h => ml_b1_of h fun m2628 hv2626 h => ml_callV dX10_next_13 wm_573 wb_348 hc2627 (sX10_refreshSharings hv2626) rfl (Nat.le_of_ble_eq_true rfl) (Nat.le_of_ble_eq_true rfl) rfl <| ml_aload_n dX10_next_16 0 rfl <| ml_ck_of h fun hc2629 h => ml_getR dX10_next_17 wb_185 hc2629 <| ml_lx (mk := ml_r) h fun a2630 h => ml_ck_of h fun hc2631 h => ml_getR dX10_next_20 wb_363 hc2631 <| ml_lx (mk := ml_r) h fun a2632 h => ml_iload_n dX10_next_23 1 rfl <| ml_ck_of h fun hi2633 h => ml_iald dX10_next_24 hi2633 <| ml_if_eq dX10_next_25 h (fun _ h => ml_bipush dX10_next_38 kc_bm9 <| ml_rI (mk := ml_i) hr dX10_next_40 (fun _ => trivial) h) (fun _ h => ml_aload_n dX10_next_28 0 rfl <| ml_getR dX10_next_29 wb_189 hc2629 <| ml_lx (mk := ml_r) h fun a2634 h => ml_ck_of h fun hc2635 h => ml_getI dX10_next_32 wb_190 hc2635 <| ml_if_ne dX10_next_35 h (fun _ h => ml_bipush dX10_next_41 kc_bm9 <| ml_istore_n (lv' := [(2, ml_i (-9 : Int32)), (0, ml_r l0), (1, ml_i l1)]) dX10_next_43 (ml_hn hL rfl) rfl <| ml_iconst dX10_next_44 kc_i0 <| ml_istore_n (lv' := [(3, ml_i (0 : Int32)), (2, ml_i (-9 : Int32)), (0, ml_r l0), (1, ml_i l1)]) dX10_next_45 (ml_hn hL rfl) rfl <| ml_iconst dX10_next_46 kc_i0 <| ml_istore (lv' := [(4, ml_i (0 : Int32)), (3, ml_i (0 : Int32)), (2, ml_i (-9 : Int32)), (0, ml_r l0), (1, ml_i l1)]) dX10_next_47 (ml_hn hL rfl) rfl <| ml_V.sub [3, 4, 2, 1, 0] rfl (vX10_next_49 hL hr  ml_fu _ _ _ _ _ _ h)) (fun _ h => ml_bipush dX10_next_38 kc_bm9 <| ml_rI (mk := ml_i) hr dX10_next_40 (fun _ => trivial) h))) (fun _ h => ml_iconst dX10_next_10 kc_im1 <| ml_rI (mk := ml_i) hr dX10_next_11 (fun _ => trivial) h)
theorem sX10_next {l0 : Nat} {l1 : Int32} {m : ml_M} {rv : Int32} {rm : ml_M} (h : fX10_next l0 l1 m = some (rv, rm)) : ml_Sn yX10_next cX10_next 7 (some .int) 19 [ml_r l0, ml_i l1] m (some (ml_i rv)) rm :=
  ml_Sn_of (P := True) (ini := false) (by decide +kernel) (Nat.le_of_ble_eq_true rfl) (fun h => by cases h) (fun _ => ml_RkI rv) fun E hL hr => wX10_next_0 hL hr _ _ _ h
theorem dX11_next_0 : ml_d cX11_next 0 (.iload_n 1) 1 1 := ⟨by decide +kernel, rfl⟩
theorem dX11_next_1 : ml_d cX11_next 1 (.invokestatic 312) 3 4 := ⟨by decide +kernel, rfl⟩
theorem dX11_next_4 : ml_j cX11_next 4 (.ifCond .ne) 9 7 := ⟨5, by decide +kernel, by decide, rfl⟩
theorem dX11_next_7 : ml_d cX11_next 7 (.iconst (-1)) 1 8 := ⟨by decide +kernel, rfl⟩
theorem dX11_next_8 : ml_d cX11_next 8 (.ireturn) 1 9 := ⟨by decide +kernel, rfl⟩
theorem dX11_next_9 : ml_d cX11_next 9 (.aload_n 0) 1 10 := ⟨by decide +kernel, rfl⟩
theorem dX11_next_10 : ml_d cX11_next 10 (.iload_n 1) 1 11 := ⟨by decide +kernel, rfl⟩
theorem dX11_next_11 : ml_d cX11_next 11 (.invokevirtual 315) 3 14 := ⟨by decide +kernel, rfl⟩
theorem dX11_next_14 : ml_d cX11_next 14 (.bipush (-9)) 2 16 := ⟨by decide +kernel, rfl⟩
theorem dX11_next_16 : ml_d cX11_next 16 (.istore_n 2) 1 17 := ⟨by decide +kernel, rfl⟩
theorem dX11_next_17 : ml_d cX11_next 17 (.iconst 0) 1 18 := ⟨by decide +kernel, rfl⟩
theorem dX11_next_18 : ml_d cX11_next 18 (.istore_n 3) 1 19 := ⟨by decide +kernel, rfl⟩
theorem dX11_next_19 : ml_d cX11_next 19 (.iconst 0) 1 20 := ⟨by decide +kernel, rfl⟩
theorem dX11_next_20 : ml_d cX11_next 20 (.istore 4) 2 22 := ⟨by decide +kernel, rfl⟩
theorem dX11_next_22 : ml_d cX11_next 22 (.iload 4) 2 24 := ⟨by decide +kernel, rfl⟩
theorem dX11_next_24 : ml_d cX11_next 24 (.aload_n 0) 1 25 := ⟨by decide +kernel, rfl⟩
theorem dX11_next_25 : ml_d cX11_next 25 (.getfield 175) 3 28 := ⟨by decide +kernel, rfl⟩
theorem dX11_next_28 : ml_j cX11_next 28 (.if_icmp .ge) 121 31 := ⟨93, by decide +kernel, by decide, rfl⟩
theorem dX11_next_31 : ml_d cX11_next 31 (.aload_n 0) 1 32 := ⟨by decide +kernel, rfl⟩
theorem dX11_next_32 : ml_d cX11_next 32 (.getfield 303) 3 35 := ⟨by decide +kernel, rfl⟩
theorem dX11_next_35 : ml_j cX11_next 35 (.ifCond .le) 121 38 := ⟨86, by decide +kernel, by decide, rfl⟩
theorem dX11_next_38 : ml_d cX11_next 38 (.iconst 0) 1 39 := ⟨by decide +kernel, rfl⟩
theorem dX11_next_39 : ml_d cX11_next 39 (.istore 5) 2 41 := ⟨by decide +kernel, rfl⟩
theorem dX11_next_41 : ml_d cX11_next 41 (.iconst 0) 1 42 := ⟨by decide +kernel, rfl⟩
theorem dX11_next_42 : ml_d cX11_next 42 (.istore 6) 2 44 := ⟨by decide +kernel, rfl⟩
theorem dX11_next_44 : ml_d cX11_next 44 (.iload 6) 2 46 := ⟨by decide +kernel, rfl⟩
theorem dX11_next_46 : ml_d cX11_next 46 (.aload_n 0) 1 47 := ⟨by decide +kernel, rfl⟩
theorem dX11_next_47 : ml_d cX11_next 47 (.getfield 172) 3 50 := ⟨by decide +kernel, rfl⟩
theorem dX11_next_50 : ml_j cX11_next 50 (.if_icmp .ge) 97 53 := ⟨47, by decide +kernel, by decide, rfl⟩
theorem dX11_next_53 : ml_d cX11_next 53 (.aload_n 0) 1 54 := ⟨by decide +kernel, rfl⟩
theorem dX11_next_54 : ml_d cX11_next 54 (.getfield 59) 3 57 := ⟨by decide +kernel, rfl⟩
theorem dX11_next_57 : ml_d cX11_next 57 (.bipush 8) 2 59 := ⟨by decide +kernel, rfl⟩
theorem dX11_next_59 : ml_d cX11_next 59 (.iload 4) 2 61 := ⟨by decide +kernel, rfl⟩
theorem dX11_next_61 : ml_d cX11_next 61 (.imul) 1 62 := ⟨by decide +kernel, rfl⟩
theorem dX11_next_62 : ml_d cX11_next 62 (.iload 6) 2 64 := ⟨by decide +kernel, rfl⟩
theorem dX11_next_64 : ml_d cX11_next 64 (.iadd) 1 65 := ⟨by decide +kernel, rfl⟩
theorem dX11_next_65 : ml_d cX11_next 65 (.iaload) 1 66 := ⟨by decide +kernel, rfl⟩
theorem dX11_next_66 : ml_d cX11_next 66 (.iload 5) 2 68 := ⟨by decide +kernel, rfl⟩
theorem dX11_next_68 : ml_j cX11_next 68 (.if_icmp .le) 87 71 := ⟨19, by decide +kernel, by decide, rfl⟩
theorem dX11_next_71 : ml_d cX11_next 71 (.aload_n 0) 1 72 := ⟨by decide +kernel, rfl⟩
theorem dX11_next_72 : ml_d cX11_next 72 (.getfield 59) 3 75 := ⟨by decide +kernel, rfl⟩
theorem dX11_next_75 : ml_d cX11_next 75 (.bipush 8) 2 77 := ⟨by decide +kernel, rfl⟩
theorem dX11_next_77 : ml_d cX11_next 77 (.iload 4) 2 79 := ⟨by decide +kernel, rfl⟩
theorem dX11_next_79 : ml_d cX11_next 79 (.imul) 1 80 := ⟨by decide +kernel, rfl⟩
theorem dX11_next_80 : ml_d cX11_next 80 (.iload 6) 2 82 := ⟨by decide +kernel, rfl⟩
theorem dX11_next_82 : ml_d cX11_next 82 (.iadd) 1 83 := ⟨by decide +kernel, rfl⟩
theorem dX11_next_83 : ml_d cX11_next 83 (.iaload) 1 84 := ⟨by decide +kernel, rfl⟩
theorem dX11_next_84 : ml_j cX11_next 84 .goto 89 87 := ⟨5, by decide +kernel, by decide, rfl⟩
theorem dX11_next_87 : ml_d cX11_next 87 (.iload 5) 2 89 := ⟨by decide +kernel, rfl⟩
theorem dX11_next_89 : ml_d cX11_next 89 (.istore 5) 2 91 := ⟨by decide +kernel, rfl⟩
theorem dX11_next_91 : ml_d cX11_next 91 (.iinc 6 1) 3 94 := ⟨by decide +kernel, rfl⟩
theorem dX11_next_94 : ml_j cX11_next 94 .goto 44 97 := ⟨(-50), by decide +kernel, by decide, rfl⟩
theorem dX11_next_97 : ml_d cX11_next 97 (.iload_n 2) 1 98 := ⟨by decide +kernel, rfl⟩
theorem dX11_next_98 : ml_d cX11_next 98 (.bipush (-9)) 2 100 := ⟨by decide +kernel, rfl⟩
theorem dX11_next_100 : ml_j cX11_next 100 (.if_icmp .eq) 109 103 := ⟨9, by decide +kernel, by decide, rfl⟩
theorem dX11_next_103 : ml_d cX11_next 103 (.iload 5) 2 105 := ⟨by decide +kernel, rfl⟩
theorem dX11_next_105 : ml_d cX11_next 105 (.iload_n 3) 1 106 := ⟨by decide +kernel, rfl⟩
theorem dX11_next_106 : ml_j cX11_next 106 (.if_icmp .ge) 115 109 := ⟨9, by decide +kernel, by decide, rfl⟩
theorem dX11_next_109 : ml_d cX11_next 109 (.iload 4) 2 111 := ⟨by decide +kernel, rfl⟩
theorem dX11_next_111 : ml_d cX11_next 111 (.istore_n 2) 1 112 := ⟨by decide +kernel, rfl⟩
theorem dX11_next_112 : ml_d cX11_next 112 (.iload 5) 2 114 := ⟨by decide +kernel, rfl⟩
theorem dX11_next_114 : ml_d cX11_next 114 (.istore_n 3) 1 115 := ⟨by decide +kernel, rfl⟩
theorem dX11_next_115 : ml_d cX11_next 115 (.iinc 4 1) 3 118 := ⟨by decide +kernel, rfl⟩
theorem dX11_next_118 : ml_j cX11_next 118 .goto 22 121 := ⟨(-96), by decide +kernel, by decide, rfl⟩
theorem dX11_next_121 : ml_d cX11_next 121 (.iload_n 2) 1 122 := ⟨by decide +kernel, rfl⟩
theorem dX11_next_122 : ml_d cX11_next 122 (.bipush (-9)) 2 124 := ⟨by decide +kernel, rfl⟩
theorem dX11_next_124 : ml_j cX11_next 124 (.if_icmp .ne) 132 127 := ⟨8, by decide +kernel, by decide, rfl⟩
theorem dX11_next_127 : ml_d cX11_next 127 (.bipush (-9)) 2 129 := ⟨by decide +kernel, rfl⟩
theorem dX11_next_129 : ml_j cX11_next 129 .goto 138 132 := ⟨9, by decide +kernel, by decide, rfl⟩
theorem dX11_next_132 : ml_d cX11_next 132 (.aload_n 0) 1 133 := ⟨by decide +kernel, rfl⟩
theorem dX11_next_133 : ml_d cX11_next 133 (.iload_n 3) 1 134 := ⟨by decide +kernel, rfl⟩
theorem dX11_next_134 : ml_d cX11_next 134 (.iload_n 2) 1 135 := ⟨by decide +kernel, rfl⟩
theorem dX11_next_135 : ml_d cX11_next 135 (.invokevirtual 123) 3 138 := ⟨by decide +kernel, rfl⟩
theorem dX11_next_138 : ml_d cX11_next 138 (.ireturn) 1 139 := ⟨by decide +kernel, rfl⟩
def fX11_next_89 (k22 : Nat → Int32 → Int32 → Int32 → ml_M → Option (Int32 × ml_M)) (k44 : Nat → Int32 → Int32 → Int32 → Int32 → Int32 → ml_M → Option (Int32 × ml_M)) (l0 : Nat) (l2 : Int32) (l3 : Int32) (l4 : Int32) (l6 : Int32) (t0 : Int32) (m : ml_M) : Option (Int32 × ml_M) :=
    k44 l0 l2 l3 l4 t0 (l6 + (1 : Int32)) m
theorem vX11_next_89 {E : ml_E} (hL : ml_eL E = 7) {rv : Int32} {rm : ml_M} (hr : ∀ (pc pc' : Nat) (lv : List (Nat × ml_X)), ml_d cX11_next pc .ireturn 1 pc' → True → ml_V E "LostRoomModel" cX11_next 9 false rm pc lv [ml_i rv]) {k22 : Nat → Int32 → Int32 → Int32 → ml_M → Option (Int32 × ml_M)} (hk22 : ∀ (l0 : Nat) (l2 : Int32) (l3 : Int32) (l4 : Int32) (m : ml_M), k22 l0 l2 l3 l4 m = some (rv, rm) → ml_V E "LostRoomModel" cX11_next 9 false m 22 [(0, ml_r l0), (2, ml_i l2), (3, ml_i l3), (4, ml_i l4)] []) {k44 : Nat → Int32 → Int32 → Int32 → Int32 → Int32 → ml_M → Option (Int32 × ml_M)} (hk44 : ∀ (l0 : Nat) (l2 : Int32) (l3 : Int32) (l4 : Int32) (l5 : Int32) (l6 : Int32) (m : ml_M), k44 l0 l2 l3 l4 l5 l6 m = some (rv, rm) → ml_V E "LostRoomModel" cX11_next 9 false m 44 [(0, ml_r l0), (2, ml_i l2), (3, ml_i l3), (4, ml_i l4), (5, ml_i l5), (6, ml_i l6)] []) : ∀ (l0 : Nat) (l2 : Int32) (l3 : Int32) (l4 : Int32) (l6 : Int32) (t0 : Int32) (m : ml_M), fX11_next_89 k22 k44 l0 l2 l3 l4 l6 t0 m = some (rv, rm) → ml_V E "LostRoomModel" cX11_next 9 false m 89 [(0, ml_r l0), (2, ml_i l2), (3, ml_i l3), (4, ml_i l4), (6, ml_i l6)] [ml_i t0] := by
  intro l0 l2 l3 l4 l6 t0 m h
  unfold fX11_next_89 at h
  exact ml_istore (lv' := [(5, ml_i t0), (0, ml_r l0), (2, ml_i l2), (3, ml_i l3), (4, ml_i l4), (6, ml_i l6)]) dX11_next_89 (ml_hn hL rfl) rfl <| ml_iinc (lv' := [(6, ml_i (l6 + (1 : Int32))), (5, ml_i t0), (0, ml_r l0), (2, ml_i l2), (3, ml_i l3), (4, ml_i l4)]) dX11_next_91 5 rfl (congrArg (l6 + ·) kc_i1) (ml_hn hL rfl) rfl <| ml_goto dX11_next_94 <| ml_V.sub [2, 3, 4, 5, 1, 0] rfl (hk44 _ _ _ _ _ _ _ h)
def fX11_next_115 (k22 : Nat → Int32 → Int32 → Int32 → ml_M → Option (Int32 × ml_M)) (l0 : Nat) (l2 : Int32) (l3 : Int32) (l4 : Int32) (m : ml_M) : Option (Int32 × ml_M) :=
    k22 l0 l2 l3 (l4 + (1 : Int32)) m
theorem vX11_next_115 {E : ml_E} (hL : ml_eL E = 7) {rv : Int32} {rm : ml_M} (hr : ∀ (pc pc' : Nat) (lv : List (Nat × ml_X)), ml_d cX11_next pc .ireturn 1 pc' → True → ml_V E "LostRoomModel" cX11_next 9 false rm pc lv [ml_i rv]) {k22 : Nat → Int32 → Int32 → Int32 → ml_M → Option (Int32 × ml_M)} (hk22 : ∀ (l0 : Nat) (l2 : Int32) (l3 : Int32) (l4 : Int32) (m : ml_M), k22 l0 l2 l3 l4 m = some (rv, rm) → ml_V E "LostRoomModel" cX11_next 9 false m 22 [(0, ml_r l0), (2, ml_i l2), (3, ml_i l3), (4, ml_i l4)] []) : ∀ (l0 : Nat) (l2 : Int32) (l3 : Int32) (l4 : Int32) (m : ml_M), fX11_next_115 k22 l0 l2 l3 l4 m = some (rv, rm) → ml_V E "LostRoomModel" cX11_next 9 false m 115 [(0, ml_r l0), (2, ml_i l2), (3, ml_i l3), (4, ml_i l4)] [] := by
  intro l0 l2 l3 l4 m h
  unfold fX11_next_115 at h
  exact ml_iinc (lv' := [(4, ml_i (l4 + (1 : Int32))), (0, ml_r l0), (2, ml_i l2), (3, ml_i l3)]) dX11_next_115 3 rfl (congrArg (l4 + ·) kc_i1) (ml_hn hL rfl) rfl <| ml_goto dX11_next_118 <| ml_V.sub [1, 2, 3, 0] rfl (hk22 _ _ _ _ _ h)
def fX11_next_109 (k22 : Nat → Int32 → Int32 → Int32 → ml_M → Option (Int32 × ml_M)) (l0 : Nat) (l4 : Int32) (l5 : Int32) (m : ml_M) : Option (Int32 × ml_M) :=
    fX11_next_115 k22 l0 l4 l5 l4 m
theorem vX11_next_109 {E : ml_E} (hL : ml_eL E = 7) {rv : Int32} {rm : ml_M} (hr : ∀ (pc pc' : Nat) (lv : List (Nat × ml_X)), ml_d cX11_next pc .ireturn 1 pc' → True → ml_V E "LostRoomModel" cX11_next 9 false rm pc lv [ml_i rv]) {k22 : Nat → Int32 → Int32 → Int32 → ml_M → Option (Int32 × ml_M)} (hk22 : ∀ (l0 : Nat) (l2 : Int32) (l3 : Int32) (l4 : Int32) (m : ml_M), k22 l0 l2 l3 l4 m = some (rv, rm) → ml_V E "LostRoomModel" cX11_next 9 false m 22 [(0, ml_r l0), (2, ml_i l2), (3, ml_i l3), (4, ml_i l4)] []) : ∀ (l0 : Nat) (l4 : Int32) (l5 : Int32) (m : ml_M), fX11_next_109 k22 l0 l4 l5 m = some (rv, rm) → ml_V E "LostRoomModel" cX11_next 9 false m 109 [(0, ml_r l0), (4, ml_i l4), (5, ml_i l5)] [] := by
  intro l0 l4 l5 m h
  unfold fX11_next_109 at h
  exact ml_iload dX11_next_109 1 rfl <| ml_istore_n (lv' := [(2, ml_i l4), (0, ml_r l0), (4, ml_i l4), (5, ml_i l5)]) dX11_next_111 (ml_hn hL rfl) rfl <| ml_iload dX11_next_112 3 rfl <| ml_istore_n (lv' := [(3, ml_i l5), (2, ml_i l4), (0, ml_r l0), (4, ml_i l4), (5, ml_i l5)]) dX11_next_114 (ml_hn hL rfl) rfl <| ml_V.sub [2, 1, 0, 3] rfl (vX11_next_115 hL hr hk22 _ _ _ _ _ h)
def fX11_next_97 (k22 : Nat → Int32 → Int32 → Int32 → ml_M → Option (Int32 × ml_M)) (l0 : Nat) (l2 : Int32) (l3 : Int32) (l4 : Int32) (l5 : Int32) (m : ml_M) : Option (Int32 × ml_M) :=
    if l2 = (-9 : Int32) then
    fX11_next_109 k22 l0 l4 l5 m
    else
    if l3 ≤ l5 then
    fX11_next_115 k22 l0 l2 l3 l4 m
    else
    fX11_next_109 k22 l0 l4 l5 m
theorem vX11_next_97 {E : ml_E} (hL : ml_eL E = 7) {rv : Int32} {rm : ml_M} (hr : ∀ (pc pc' : Nat) (lv : List (Nat × ml_X)), ml_d cX11_next pc .ireturn 1 pc' → True → ml_V E "LostRoomModel" cX11_next 9 false rm pc lv [ml_i rv]) {k22 : Nat → Int32 → Int32 → Int32 → ml_M → Option (Int32 × ml_M)} (hk22 : ∀ (l0 : Nat) (l2 : Int32) (l3 : Int32) (l4 : Int32) (m : ml_M), k22 l0 l2 l3 l4 m = some (rv, rm) → ml_V E "LostRoomModel" cX11_next 9 false m 22 [(0, ml_r l0), (2, ml_i l2), (3, ml_i l3), (4, ml_i l4)] []) : ∀ (l0 : Nat) (l2 : Int32) (l3 : Int32) (l4 : Int32) (l5 : Int32) (m : ml_M), fX11_next_97 k22 l0 l2 l3 l4 l5 m = some (rv, rm) → ml_V E "LostRoomModel" cX11_next 9 false m 97 [(0, ml_r l0), (2, ml_i l2), (3, ml_i l3), (4, ml_i l4), (5, ml_i l5)] [] := by
  intro l0 l2 l3 l4 l5 m h
  unfold fX11_next_97 at h
  exact ml_iload_n dX11_next_97 1 rfl <| ml_bipush dX11_next_98 kc_bm9 <| ml_icmp_eq dX11_next_100 h (fun _ h => ml_V.sub [0, 3, 4] rfl (vX11_next_109 hL hr hk22 _ _ _ _ h)) (fun _ h => ml_iload dX11_next_103 4 rfl <| ml_iload_n dX11_next_105 2 rfl <| ml_icmp_ge dX11_next_106 h (fun _ h => ml_V.sub [0, 1, 2, 3] rfl (vX11_next_115 hL hr hk22 _ _ _ _ _ h)) (fun _ h => ml_V.sub [0, 3, 4] rfl (vX11_next_109 hL hr hk22 _ _ _ _ h)))
def fX11_next_44 (k22 : Nat → Int32 → Int32 → Int32 → ml_M → Option (Int32 × ml_M)) : Nat → Nat → Int32 → Int32 → Int32 → Int32 → Int32 → ml_M → Option (Int32 × ml_M)
  | 0, _, _, _, _, _, _, _ => none
  | fu + 1, l0, l2, l3, l4, l5, l6, m =>
    if (ml_K m l0).1 = 11 then
    if (ml_I m l0 9) ≤ l6 then
    fX11_next_97 k22 l0 l2 l3 l4 l5 m
    else
    ml_let (ml_R m l0 31) fun a2637 =>
    if ml_in m a2637 20 (((8 : Int32) * l4) + l6) then
    if (ml_I m a2637 (((8 : Int32) * l4) + l6).toNatClampNeg) ≤ l5 then
    fX11_next_89 k22 (fX11_next_44 k22 fu) l0 l2 l3 l4 l6 l5 m
    else
    ml_let (ml_R m l0 31) fun a2639 =>
    if ml_in m a2639 20 (((8 : Int32) * l4) + l6) then
    fX11_next_89 k22 (fX11_next_44 k22 fu) l0 l2 l3 l4 l6 (ml_I m a2639 (((8 : Int32) * l4) + l6).toNatClampNeg) m
    else none
    else none
    else none
theorem vX11_next_44 {E : ml_E} (hL : ml_eL E = 7) {rv : Int32} {rm : ml_M} (hr : ∀ (pc pc' : Nat) (lv : List (Nat × ml_X)), ml_d cX11_next pc .ireturn 1 pc' → True → ml_V E "LostRoomModel" cX11_next 9 false rm pc lv [ml_i rv]) {k22 : Nat → Int32 → Int32 → Int32 → ml_M → Option (Int32 × ml_M)} (hk22 : ∀ (l0 : Nat) (l2 : Int32) (l3 : Int32) (l4 : Int32) (m : ml_M), k22 l0 l2 l3 l4 m = some (rv, rm) → ml_V E "LostRoomModel" cX11_next 9 false m 22 [(0, ml_r l0), (2, ml_i l2), (3, ml_i l3), (4, ml_i l4)] []) : ∀ (fu : Nat) (l0 : Nat) (l2 : Int32) (l3 : Int32) (l4 : Int32) (l5 : Int32) (l6 : Int32) (m : ml_M), fX11_next_44 k22 fu l0 l2 l3 l4 l5 l6 m = some (rv, rm) → ml_V E "LostRoomModel" cX11_next 9 false m 44 [(0, ml_r l0), (2, ml_i l2), (3, ml_i l3), (4, ml_i l4), (5, ml_i l5), (6, ml_i l6)] [] := by
  intro fu
  induction fu with
  | zero => intro l0 l2 l3 l4 l5 l6 m h; exact ml_none h
  | succ fu ih =>
    intro l0 l2 l3 l4 l5 l6 m h
    have hk44 := ih
    unfold fX11_next_44 at h
    exact ml_iload dX11_next_44 5 rfl <| ml_aload_n dX11_next_46 0 rfl <| ml_ck_of h fun hc2636 h => ml_getI dX11_next_47 wb_215 hc2636 <| ml_icmp_ge dX11_next_50 h (fun _ h => ml_V.sub [0, 1, 2, 3, 4] rfl (vX11_next_97 hL hr hk22 _ _ _ _ _ _ h)) (fun _ h => ml_aload_n dX11_next_53 0 rfl <| ml_getR dX11_next_54 wb_368 hc2636 <| ml_lx (mk := ml_r) h fun a2637 h => ml_bipush dX11_next_57 kc_b8 <| ml_iload dX11_next_59 3 rfl <| ml_imul dX11_next_61 <| ml_iload dX11_next_62 5 rfl <| ml_iadd dX11_next_64 <| ml_ck_of h fun hi2638 h => ml_iald dX11_next_65 hi2638 <| ml_iload dX11_next_66 4 rfl <| ml_icmp_le dX11_next_68 h (fun _ h => ml_iload dX11_next_87 4 rfl <| ml_V.sub [0, 1, 2, 3, 5] rfl (vX11_next_89 hL hr hk22 hk44 _ _ _ _ _ _ _ h)) (fun _ h => ml_aload_n dX11_next_71 0 rfl <| ml_getR dX11_next_72 wb_368 hc2636 <| ml_lx (mk := ml_r) h fun a2639 h => ml_bipush dX11_next_75 kc_b8 <| ml_iload dX11_next_77 3 rfl <| ml_imul dX11_next_79 <| ml_iload dX11_next_80 5 rfl <| ml_iadd dX11_next_82 <| ml_ck_of h fun hi2640 h => ml_iald dX11_next_83 hi2640 <| ml_goto dX11_next_84 <| ml_V.sub [0, 1, 2, 3, 5] rfl (vX11_next_89 hL hr hk22 hk44 _ _ _ _ _ _ _ h)))
def fX11_next_121 (l0 : Nat) (l2 : Int32) (l3 : Int32) (m : ml_M) : Option (Int32 × ml_M) :=
    if l2 = (-9 : Int32) then
    some ((-9 : Int32), m)
    else
    if (ml_K m l0).1 = 11 then
    ml_b2 (fX11_tells l0 l3 l2 m) fun r2643 m2644 =>
    some (r2643, m2644)
    else none
theorem vX11_next_121 {E : ml_E} (hL : ml_eL E = 7) {rv : Int32} {rm : ml_M} (hr : ∀ (pc pc' : Nat) (lv : List (Nat × ml_X)), ml_d cX11_next pc .ireturn 1 pc' → True → ml_V E "LostRoomModel" cX11_next 9 false rm pc lv [ml_i rv]) : ∀ (l0 : Nat) (l2 : Int32) (l3 : Int32) (m : ml_M), fX11_next_121 l0 l2 l3 m = some (rv, rm) → ml_V E "LostRoomModel" cX11_next 9 false m 121 [(0, ml_r l0), (2, ml_i l2), (3, ml_i l3)] [] := by
  intro l0 l2 l3 m h
  unfold fX11_next_121 at h
  exact ml_iload_n dX11_next_121 1 rfl <| ml_bipush dX11_next_122 kc_bm9 <| ml_icmp_ne dX11_next_124 h (fun _ h => ml_aload_n dX11_next_132 0 rfl <| ml_iload_n dX11_next_133 2 rfl <| ml_iload_n dX11_next_134 1 rfl <| ml_ck_of h fun hc2642 h => ml_b2_of h fun r2643 m2644 hv2641 h => ml_callV dX11_next_135 wm_158 wb_110 hc2642 (sX11_tells hv2641) rfl (Nat.le_of_ble_eq_true rfl) (Nat.le_of_ble_eq_true rfl) rfl <| ml_rI (mk := ml_i) hr dX11_next_138 (fun _ => trivial) h) (fun _ h => ml_bipush dX11_next_127 kc_bm9 <| ml_goto dX11_next_129 <| ml_rI (mk := ml_i) hr dX11_next_138 (fun _ => trivial) h)
def fX11_next_22 : Nat → Nat → Int32 → Int32 → Int32 → ml_M → Option (Int32 × ml_M)
  | 0, _, _, _, _, _ => none
  | fu + 1, l0, l2, l3, l4, m =>
    if (ml_K m l0).1 = 11 then
    if (ml_I m l0 10) ≤ l4 then
    fX11_next_121 l0 l2 l3 m
    else
    if (ml_I m l0 30) ≤ 0 then
    fX11_next_121 l0 l2 l3 m
    else
    fX11_next_44 (fX11_next_22 fu) ml_fu l0 l2 l3 l4 (0 : Int32) (0 : Int32) m
    else none
theorem vX11_next_22 {E : ml_E} (hL : ml_eL E = 7) {rv : Int32} {rm : ml_M} (hr : ∀ (pc pc' : Nat) (lv : List (Nat × ml_X)), ml_d cX11_next pc .ireturn 1 pc' → True → ml_V E "LostRoomModel" cX11_next 9 false rm pc lv [ml_i rv]) : ∀ (fu : Nat) (l0 : Nat) (l2 : Int32) (l3 : Int32) (l4 : Int32) (m : ml_M), fX11_next_22 fu l0 l2 l3 l4 m = some (rv, rm) → ml_V E "LostRoomModel" cX11_next 9 false m 22 [(0, ml_r l0), (2, ml_i l2), (3, ml_i l3), (4, ml_i l4)] [] := by
  intro fu
  induction fu with
  | zero => intro l0 l2 l3 l4 m h; exact ml_none h
  | succ fu ih =>
    intro l0 l2 l3 l4 m h
    have hk22 := ih
    unfold fX11_next_22 at h
    exact ml_iload dX11_next_22 3 rfl <| ml_aload_n dX11_next_24 0 rfl <| ml_ck_of h fun hc2645 h => ml_getI dX11_next_25 wb_196 hc2645 <| ml_icmp_ge dX11_next_28 h (fun _ h => ml_V.sub [0, 1, 2] rfl (vX11_next_121 hL hr  _ _ _ _ h)) (fun _ h => ml_aload_n dX11_next_31 0 rfl <| ml_getI dX11_next_32 wb_369 hc2645 <| ml_if_le dX11_next_35 h (fun _ h => ml_V.sub [0, 1, 2] rfl (vX11_next_121 hL hr  _ _ _ _ h)) (fun _ h => ml_iconst dX11_next_38 kc_i0 <| ml_istore (lv' := [(5, ml_i (0 : Int32)), (0, ml_r l0), (2, ml_i l2), (3, ml_i l3), (4, ml_i l4)]) dX11_next_39 (ml_hn hL rfl) rfl <| ml_iconst dX11_next_41 kc_i0 <| ml_istore (lv' := [(6, ml_i (0 : Int32)), (5, ml_i (0 : Int32)), (0, ml_r l0), (2, ml_i l2), (3, ml_i l3), (4, ml_i l4)]) dX11_next_42 (ml_hn hL rfl) rfl <| ml_V.sub [2, 3, 4, 5, 1, 0] rfl (vX11_next_44 hL hr hk22 ml_fu _ _ _ _ _ _ _ h)))
def fX11_next (l0 : Nat) (l1 : Int32) (m : ml_M) : Option (Int32 × ml_M) :=
    ml_b1 (fX11_isMost l1 m) fun r2647 =>
    if r2647 = 0 then
    some ((-1 : Int32), m)
    else
    if (ml_K m l0).1 = 11 then
    ml_b1 (fX11_layOften l0 l1 m) fun m2650 =>
    fX11_next_22 ml_fu l0 (-9 : Int32) (0 : Int32) (0 : Int32) m2650
    else none
theorem wX11_next_0 {E : ml_E} (hL : ml_eL E = 7) {rv : Int32} {rm : ml_M} (hr : ∀ (pc pc' : Nat) (lv : List (Nat × ml_X)), ml_d cX11_next pc .ireturn 1 pc' → True → ml_V E "LostRoomModel" cX11_next 9 false rm pc lv [ml_i rv]) : ∀ (l0 : Nat) (l1 : Int32) (m : ml_M), fX11_next l0 l1 m = some (rv, rm) → ml_V E "LostRoomModel" cX11_next 9 false m 0 [(0, ml_r l0), (1, ml_i l1)] [] := by
  intro l0 l1 m h
  unfold fX11_next at h
  exact ml_iload_n dX11_next_0 1 rfl <| ml_b1_of h fun r2647 hv2646 h => ml_callS dX11_next_1 wm_614 wb_371 (sX11_isMost hv2646) rfl (Nat.le_of_ble_eq_true rfl) (Nat.le_of_ble_eq_true rfl) rfl <| ml_if_ne dX11_next_4 h (fun _ h => ml_aload_n dX11_next_9 0 rfl <| ml_iload_n dX11_next_10 1 rfl <| ml_ck_of h fun hc2649 h => ml_b1_of h fun m2650 hv2648 h => ml_callV dX11_next_11 wm_618 wb_372 hc2649 (sX11_layOften hv2648) rfl (Nat.le_of_ble_eq_true rfl) (Nat.le_of_ble_eq_true rfl) rfl <| ml_bipush dX11_next_14 kc_bm9 <| ml_istore_n (lv' := [(2, ml_i (-9 : Int32)), (0, ml_r l0), (1, ml_i l1)]) dX11_next_16 (ml_hn hL rfl) rfl <| ml_iconst dX11_next_17 kc_i0 <| ml_istore_n (lv' := [(3, ml_i (0 : Int32)), (2, ml_i (-9 : Int32)), (0, ml_r l0), (1, ml_i l1)]) dX11_next_18 (ml_hn hL rfl) rfl <| ml_iconst dX11_next_19 kc_i0 <| ml_istore (lv' := [(4, ml_i (0 : Int32)), (3, ml_i (0 : Int32)), (2, ml_i (-9 : Int32)), (0, ml_r l0), (1, ml_i l1)]) dX11_next_20 (ml_hn hL rfl) rfl <| ml_V.sub [3, 2, 1, 0] rfl (vX11_next_22 hL hr  ml_fu _ _ _ _ _ h)) (fun _ h => ml_iconst dX11_next_7 kc_im1 <| ml_rI (mk := ml_i) hr dX11_next_8 (fun _ => trivial) h)
theorem sX11_next {l0 : Nat} {l1 : Int32} {m : ml_M} {rv : Int32} {rm : ml_M} (h : fX11_next l0 l1 m = some (rv, rm)) : ml_Sn yX11_next cX11_next 7 (some .int) 9 [ml_r l0, ml_i l1] m (some (ml_i rv)) rm :=
  ml_Sn_of (P := True) (ini := false) (by decide +kernel) (Nat.le_of_ble_eq_true rfl) (fun h => by cases h) (fun _ => ml_RkI rv) fun E hL hr => wX11_next_0 hL hr _ _ _ h
theorem dX7_isSharing_0 : ml_d cX7_isSharing 0 (.aload_n 1) 1 1 := ⟨by decide +kernel, rfl⟩
theorem dX7_isSharing_1 : ml_d cX7_isSharing 1 (.arraylength) 1 2 := ⟨by decide +kernel, rfl⟩
theorem dX7_isSharing_2 : ml_d cX7_isSharing 2 (.aload_n 0) 1 3 := ⟨by decide +kernel, rfl⟩
theorem dX7_isSharing_3 : ml_d cX7_isSharing 3 (.getfield 52) 3 6 := ⟨by decide +kernel, rfl⟩
theorem dX7_isSharing_6 : ml_j cX7_isSharing 6 (.if_icmp .eq) 11 9 := ⟨5, by decide +kernel, by decide, rfl⟩
theorem dX7_isSharing_9 : ml_d cX7_isSharing 9 (.iconst 0) 1 10 := ⟨by decide +kernel, rfl⟩
theorem dX7_isSharing_10 : ml_d cX7_isSharing 10 (.ireturn) 1 11 := ⟨by decide +kernel, rfl⟩
theorem dX7_isSharing_11 : ml_d cX7_isSharing 11 (.iconst 0) 1 12 := ⟨by decide +kernel, rfl⟩
theorem dX7_isSharing_12 : ml_d cX7_isSharing 12 (.istore_n 2) 1 13 := ⟨by decide +kernel, rfl⟩
theorem dX7_isSharing_13 : ml_d cX7_isSharing 13 (.iconst 0) 1 14 := ⟨by decide +kernel, rfl⟩
theorem dX7_isSharing_14 : ml_d cX7_isSharing 14 (.istore_n 3) 1 15 := ⟨by decide +kernel, rfl⟩
theorem dX7_isSharing_15 : ml_d cX7_isSharing 15 (.iload_n 3) 1 16 := ⟨by decide +kernel, rfl⟩
theorem dX7_isSharing_16 : ml_d cX7_isSharing 16 (.aload_n 0) 1 17 := ⟨by decide +kernel, rfl⟩
theorem dX7_isSharing_17 : ml_d cX7_isSharing 17 (.getfield 52) 3 20 := ⟨by decide +kernel, rfl⟩
theorem dX7_isSharing_20 : ml_j cX7_isSharing 20 (.if_icmp .ge) 80 23 := ⟨60, by decide +kernel, by decide, rfl⟩
theorem dX7_isSharing_23 : ml_d cX7_isSharing 23 (.aload_n 1) 1 24 := ⟨by decide +kernel, rfl⟩
theorem dX7_isSharing_24 : ml_d cX7_isSharing 24 (.iload_n 3) 1 25 := ⟨by decide +kernel, rfl⟩
theorem dX7_isSharing_25 : ml_d cX7_isSharing 25 (.iaload) 1 26 := ⟨by decide +kernel, rfl⟩
theorem dX7_isSharing_26 : ml_d cX7_isSharing 26 (.istore 4) 2 28 := ⟨by decide +kernel, rfl⟩
theorem dX7_isSharing_28 : ml_d cX7_isSharing 28 (.iload 4) 2 30 := ⟨by decide +kernel, rfl⟩
theorem dX7_isSharing_30 : ml_d cX7_isSharing 30 (.iconst 0) 1 31 := ⟨by decide +kernel, rfl⟩
theorem dX7_isSharing_31 : ml_d cX7_isSharing 31 (.aload_n 0) 1 32 := ⟨by decide +kernel, rfl⟩
theorem dX7_isSharing_32 : ml_d cX7_isSharing 32 (.getfield 56) 3 35 := ⟨by decide +kernel, rfl⟩
theorem dX7_isSharing_35 : ml_d cX7_isSharing 35 (.iconst 1) 1 36 := ⟨by decide +kernel, rfl⟩
theorem dX7_isSharing_36 : ml_d cX7_isSharing 36 (.isub) 1 37 := ⟨by decide +kernel, rfl⟩
theorem dX7_isSharing_37 : ml_d cX7_isSharing 37 (.invokestatic 85) 3 40 := ⟨by decide +kernel, rfl⟩
theorem dX7_isSharing_40 : ml_j cX7_isSharing 40 (.ifCond .eq) 57 43 := ⟨17, by decide +kernel, by decide, rfl⟩
theorem dX7_isSharing_43 : ml_d cX7_isSharing 43 (.aload_n 0) 1 44 := ⟨by decide +kernel, rfl⟩
theorem dX7_isSharing_44 : ml_d cX7_isSharing 44 (.iload_n 3) 1 45 := ⟨by decide +kernel, rfl⟩
theorem dX7_isSharing_45 : ml_d cX7_isSharing 45 (.iload_n 2) 1 46 := ⟨by decide +kernel, rfl⟩
theorem dX7_isSharing_46 : ml_d cX7_isSharing 46 (.invokevirtual 89) 3 49 := ⟨by decide +kernel, rfl⟩
theorem dX7_isSharing_49 : ml_d cX7_isSharing 49 (.iload 4) 2 51 := ⟨by decide +kernel, rfl⟩
theorem dX7_isSharing_51 : ml_d cX7_isSharing 51 (.invokestatic 93) 3 54 := ⟨by decide +kernel, rfl⟩
theorem dX7_isSharing_54 : ml_j cX7_isSharing 54 (.ifCond .ne) 59 57 := ⟨5, by decide +kernel, by decide, rfl⟩
theorem dX7_isSharing_57 : ml_d cX7_isSharing 57 (.iconst 0) 1 58 := ⟨by decide +kernel, rfl⟩
theorem dX7_isSharing_58 : ml_d cX7_isSharing 58 (.ireturn) 1 59 := ⟨by decide +kernel, rfl⟩
theorem dX7_isSharing_59 : ml_d cX7_isSharing 59 (.aload_n 0) 1 60 := ⟨by decide +kernel, rfl⟩
theorem dX7_isSharing_60 : ml_d cX7_isSharing 60 (.getfield 38) 3 63 := ⟨by decide +kernel, rfl⟩
theorem dX7_isSharing_63 : ml_d cX7_isSharing 63 (.iload_n 3) 1 64 := ⟨by decide +kernel, rfl⟩
theorem dX7_isSharing_64 : ml_d cX7_isSharing 64 (.iload 4) 2 66 := ⟨by decide +kernel, rfl⟩
theorem dX7_isSharing_66 : ml_d cX7_isSharing 66 (.iastore) 1 67 := ⟨by decide +kernel, rfl⟩
theorem dX7_isSharing_67 : ml_d cX7_isSharing 67 (.iload_n 2) 1 68 := ⟨by decide +kernel, rfl⟩
theorem dX7_isSharing_68 : ml_d cX7_isSharing 68 (.iconst 1) 1 69 := ⟨by decide +kernel, rfl⟩
theorem dX7_isSharing_69 : ml_d cX7_isSharing 69 (.iload 4) 2 71 := ⟨by decide +kernel, rfl⟩
theorem dX7_isSharing_71 : ml_d cX7_isSharing 71 (.ishl) 1 72 := ⟨by decide +kernel, rfl⟩
theorem dX7_isSharing_72 : ml_d cX7_isSharing 72 (.ior) 1 73 := ⟨by decide +kernel, rfl⟩
theorem dX7_isSharing_73 : ml_d cX7_isSharing 73 (.istore_n 2) 1 74 := ⟨by decide +kernel, rfl⟩
theorem dX7_isSharing_74 : ml_d cX7_isSharing 74 (.iinc 3 1) 3 77 := ⟨by decide +kernel, rfl⟩
theorem dX7_isSharing_77 : ml_j cX7_isSharing 77 .goto 15 80 := ⟨(-62), by decide +kernel, by decide, rfl⟩
theorem dX7_isSharing_80 : ml_d cX7_isSharing 80 (.aload_n 0) 1 81 := ⟨by decide +kernel, rfl⟩
theorem dX7_isSharing_81 : ml_d cX7_isSharing 81 (.getfield 28) 3 84 := ⟨by decide +kernel, rfl⟩
theorem dX7_isSharing_84 : ml_d cX7_isSharing 84 (.iload_n 2) 1 85 := ⟨by decide +kernel, rfl⟩
theorem dX7_isSharing_85 : ml_d cX7_isSharing 85 (.baload) 1 86 := ⟨by decide +kernel, rfl⟩
theorem dX7_isSharing_86 : ml_d cX7_isSharing 86 (.ireturn) 1 87 := ⟨by decide +kernel, rfl⟩
def fX7_isSharing_80 (l0 : Nat) (l2 : Int32) (m : ml_M) : Option (Int32 × ml_M) :=
    if (ml_K m l0).1 = 7 then
    ml_let (ml_R m l0 9) fun a2652 =>
    if ml_in m a2652 22 l2 then
    if (ml_I m a2652 l2.toNatClampNeg) = 0 ∨ (ml_I m a2652 l2.toNatClampNeg) = 1 then some ((ml_I m a2652 l2.toNatClampNeg), m) else none
    else none
    else none
theorem vX7_isSharing_80 {E : ml_E} (hL : ml_eL E = 5) {rv : Int32} {rm : ml_M} (hr : ∀ (pc pc' : Nat) (lv : List (Nat × ml_X)), ml_d cX7_isSharing pc .ireturn 1 pc' → (rv = 0 ∨ rv = 1) → ml_V E "LostRoom$Sharings" cX7_isSharing 4 false rm pc lv [ml_i rv]) : ∀ (l0 : Nat) (l2 : Int32) (m : ml_M), fX7_isSharing_80 l0 l2 m = some (rv, rm) → ml_V E "LostRoom$Sharings" cX7_isSharing 4 false m 80 [(0, ml_r l0), (2, ml_i l2)] [] := by
  intro l0 l2 m h
  unfold fX7_isSharing_80 at h
  exact ml_aload_n dX7_isSharing_80 0 rfl <| ml_ck_of h fun hc2651 h => ml_getR dX7_isSharing_81 wb_320 hc2651 <| ml_lx (mk := ml_r) h fun a2652 h => ml_iload_n dX7_isSharing_84 1 rfl <| ml_ck_of h fun hi2653 h => ml_zald dX7_isSharing_85 hi2653 <| ml_ck_of h fun hz2654 h => ml_rI (mk := ml_i) hr dX7_isSharing_86 (fun e => e ▸ hz2654) h
def fX7_isSharing_15 : Nat → Nat → Nat → Int32 → Int32 → ml_M → Option (Int32 × ml_M)
  | 0, _, _, _, _, _ => none
  | fu + 1, l0, l1, l2, l3, m =>
    if (ml_K m l0).1 = 7 then
    if (ml_I m l0 6) ≤ l3 then
    fX7_isSharing_80 l0 l2 m
    else
    if ml_in m l1 20 l3 then
    ml_let (ml_I m l1 l3.toNatClampNeg) fun x2657 =>
    ml_b1 (fX10_within x2657 (0 : Int32) ((ml_I m l0 7) - (1 : Int32)) m) fun r2659 =>
    if r2659 = 0 then
    some ((0 : Int32), m)
    else
    ml_b1 (fX7_open l0 l3 l2 m) fun r2661 =>
    ml_b1 (fX10_has r2661 x2657 m) fun r2663 =>
    if r2663 = 0 then
    some ((0 : Int32), m)
    else
    ml_let (ml_R m l0 12) fun a2664 =>
    if ml_in m a2664 20 l3 then
    ml_let (ml_sI m a2664 l3.toNatClampNeg x2657) fun m2666 =>
    ml_let (l2 ||| ((1 : Int32) <<< (x2657 &&& 31))) fun x2668 =>
    (fX7_isSharing_15 fu) l0 l1 x2668 (l3 + (1 : Int32)) m2666
    else none
    else none
    else none
theorem vX7_isSharing_15 {E : ml_E} (hL : ml_eL E = 5) {rv : Int32} {rm : ml_M} (hr : ∀ (pc pc' : Nat) (lv : List (Nat × ml_X)), ml_d cX7_isSharing pc .ireturn 1 pc' → (rv = 0 ∨ rv = 1) → ml_V E "LostRoom$Sharings" cX7_isSharing 4 false rm pc lv [ml_i rv]) : ∀ (fu : Nat) (l0 : Nat) (l1 : Nat) (l2 : Int32) (l3 : Int32) (m : ml_M), fX7_isSharing_15 fu l0 l1 l2 l3 m = some (rv, rm) → ml_V E "LostRoom$Sharings" cX7_isSharing 4 false m 15 [(0, ml_r l0), (1, ml_r l1), (2, ml_i l2), (3, ml_i l3)] [] := by
  intro fu
  induction fu with
  | zero => intro l0 l1 l2 l3 m h; exact ml_none h
  | succ fu ih =>
    intro l0 l1 l2 l3 m h
    have hk15 := ih
    unfold fX7_isSharing_15 at h
    exact ml_iload_n dX7_isSharing_15 3 rfl <| ml_aload_n dX7_isSharing_16 0 rfl <| ml_ck_of h fun hc2655 h => ml_getI dX7_isSharing_17 wb_326 hc2655 <| ml_icmp_ge dX7_isSharing_20 h (fun _ h => ml_V.sub [0, 2] rfl (vX7_isSharing_80 hL hr  _ _ _ h)) (fun _ h => ml_aload_n dX7_isSharing_23 1 rfl <| ml_iload_n dX7_isSharing_24 3 rfl <| ml_ck_of h fun hi2656 h => ml_iald dX7_isSharing_25 hi2656 <| ml_lx (mk := ml_i) h fun x2657 h => ml_istore (lv' := [(4, ml_i x2657), (0, ml_r l0), (1, ml_r l1), (2, ml_i l2), (3, ml_i l3)]) dX7_isSharing_26 (ml_hn hL rfl) rfl <| ml_iload dX7_isSharing_28 0 rfl <| ml_iconst dX7_isSharing_30 kc_i0 <| ml_aload_n dX7_isSharing_31 1 rfl <| ml_getI dX7_isSharing_32 wb_314 hc2655 <| ml_iconst dX7_isSharing_35 kc_i1 <| ml_isub dX7_isSharing_36 <| ml_b1_of h fun r2659 hv2658 h => ml_callSN (host := "LostRoom") dX7_isSharing_37 (by decide) wb_94 (sX10_within hv2658) rfl (Nat.le_of_ble_eq_true rfl) (Nat.le_of_ble_eq_true rfl) rfl <| ml_if_eq dX7_isSharing_40 h (fun _ h => ml_iconst dX7_isSharing_57 kc_i0 <| ml_rI (mk := ml_i) hr dX7_isSharing_58 (fun e => Or.inl e.symm) h) (fun _ h => ml_aload_n dX7_isSharing_43 1 rfl <| ml_iload_n dX7_isSharing_44 4 rfl <| ml_iload_n dX7_isSharing_45 3 rfl <| ml_b1_of h fun r2661 hv2660 h => ml_callV dX7_isSharing_46 wm_545 wb_333 hc2655 (sX7_open hv2660) rfl (Nat.le_of_ble_eq_true rfl) (Nat.le_of_ble_eq_true rfl) rfl <| ml_iload dX7_isSharing_49 0 rfl <| ml_b1_of h fun r2663 hv2662 h => ml_callSN (host := "LostRoom") dX7_isSharing_51 (by decide) wb_299 (sX10_has hv2662) rfl (Nat.le_of_ble_eq_true rfl) (Nat.le_of_ble_eq_true rfl) rfl <| ml_if_ne dX7_isSharing_54 h (fun _ h => ml_aload_n dX7_isSharing_59 1 rfl <| ml_getR dX7_isSharing_60 wb_322 hc2655 <| ml_lx (mk := ml_r) h fun a2664 h => ml_iload_n dX7_isSharing_63 4 rfl <| ml_iload dX7_isSharing_64 0 rfl <| ml_ck_of h fun hi2665 h => ml_iast dX7_isSharing_66 hi2665 <| ml_lt (m := m) rfl h fun m2666 em2667 h => ml_iload_n dX7_isSharing_67 3 rfl <| ml_iconst dX7_isSharing_68 kc_i1 <| ml_iload dX7_isSharing_69 0 rfl <| ml_ishl dX7_isSharing_71 <| ml_ior dX7_isSharing_72 <| ml_lx (mk := ml_i) h fun x2668 h => ml_istore_n (lv' := [(2, ml_i x2668), (4, ml_i x2657), (0, ml_r l0), (1, ml_r l1), (3, ml_i l3)]) dX7_isSharing_73 (ml_hn hL rfl) rfl <| ml_iinc (lv' := [(3, ml_i (l3 + (1 : Int32))), (2, ml_i x2668), (4, ml_i x2657), (0, ml_r l0), (1, ml_r l1)]) dX7_isSharing_74 4 rfl (congrArg (l3 + ·) kc_i1) (ml_hn hL rfl) rfl <| ml_goto dX7_isSharing_77 <| ml_V.sub [3, 4, 1, 0] rfl (hk15 _ _ _ _ _ h)) (fun _ h => ml_iconst dX7_isSharing_57 kc_i0 <| ml_rI (mk := ml_i) hr dX7_isSharing_58 (fun e => Or.inl e.symm) h)))
def fX7_isSharing (l0 : Nat) (l1 : Nat) (m : ml_M) : Option (Int32 × ml_M) :=
    if (ml_K m l1).1 = 20 then
    if (ml_K m l0).1 = 7 then
    if (Int32.ofNat (ml_K m l1).2) = (ml_I m l0 6) then
    fX7_isSharing_15 ml_fu l0 l1 (0 : Int32) (0 : Int32) m
    else
    some ((0 : Int32), m)
    else none
    else none
theorem wX7_isSharing_0 {E : ml_E} (hL : ml_eL E = 5) {rv : Int32} {rm : ml_M} (hr : ∀ (pc pc' : Nat) (lv : List (Nat × ml_X)), ml_d cX7_isSharing pc .ireturn 1 pc' → (rv = 0 ∨ rv = 1) → ml_V E "LostRoom$Sharings" cX7_isSharing 4 false rm pc lv [ml_i rv]) : ∀ (l0 : Nat) (l1 : Nat) (m : ml_M), fX7_isSharing l0 l1 m = some (rv, rm) → ml_V E "LostRoom$Sharings" cX7_isSharing 4 false m 0 [(0, ml_r l0), (1, ml_r l1)] [] := by
  intro l0 l1 m h
  unfold fX7_isSharing at h
  exact ml_aload_n dX7_isSharing_0 1 rfl <| ml_ck_of h fun hc2669 h => ml_alen (kd := 20) dX7_isSharing_1 (by decide) hc2669 <| ml_aload_n dX7_isSharing_2 0 rfl <| ml_ck_of h fun hc2670 h => ml_getI dX7_isSharing_3 wb_326 hc2670 <| ml_icmp_eq dX7_isSharing_6 h (fun _ h => ml_iconst dX7_isSharing_11 kc_i0 <| ml_istore_n (lv' := [(2, ml_i (0 : Int32)), (0, ml_r l0), (1, ml_r l1)]) dX7_isSharing_12 (ml_hn hL rfl) rfl <| ml_iconst dX7_isSharing_13 kc_i0 <| ml_istore_n (lv' := [(3, ml_i (0 : Int32)), (2, ml_i (0 : Int32)), (0, ml_r l0), (1, ml_r l1)]) dX7_isSharing_14 (ml_hn hL rfl) rfl <| ml_V.sub [2, 3, 1, 0] rfl (vX7_isSharing_15 hL hr  ml_fu _ _ _ _ _ h)) (fun _ h => ml_iconst dX7_isSharing_9 kc_i0 <| ml_rI (mk := ml_i) hr dX7_isSharing_10 (fun e => Or.inl e.symm) h)
theorem sX7_isSharing {l0 : Nat} {l1 : Nat} {m : ml_M} {rv : Int32} {rm : ml_M} (h : fX7_isSharing l0 l1 m = some (rv, rm)) : ml_Sn yX7_isSharing cX7_isSharing 5 (some .boolean) 4 [ml_r l0, ml_r l1] m (some (ml_i rv)) rm :=
  ml_Sn_of (P := (rv = 0 ∨ rv = 1)) (ini := false) (by decide +kernel) (Nat.le_of_ble_eq_true rfl) (fun h => by cases h) (fun hz => ml_RkZ rv hz) fun E hL hr => wX7_isSharing_0 hL hr _ _ _ h

/-! printed by wip/p51/emit2.py: the class does the same in memories that hold the same -/
theorem zX10_whose_62 {p : Nat → Nat} {v0 r0 : ml_M} {k29 k29' : Nat → Int32 → Int32 → Int32 → Int32 → ml_M → Option (Int32 × ml_M)} (hk29 : ∀ (l0 l0' : Nat) (hl0 : pt_r p l0 l0') (l1 l1' : Int32) (hl1 : l1 = l1') (l2 l2' : Int32) (hl2 : l2 = l2') (l3 l3' : Int32) (hl3 : l3 = l3') (l4 l4' : Int32) (hl4 : l4 = l4') (m n : ml_M) (hq : pt_Q p v0 r0 m n), pt_T (pt_WV p v0 r0) (k29 l0 l1 l2 l3 l4 m) (k29' l0' l1' l2' l3' l4' n)) : ∀ (l0 l0' : Nat) (hl0 : pt_r p l0 l0') (l1 l1' : Int32) (hl1 : l1 = l1') (l2 l2' : Int32) (hl2 : l2 = l2') (l3 l3' : Int32) (hl3 : l3 = l3') (l4 l4' : Int32) (hl4 : l4 = l4') (m n : ml_M) (hq : pt_Q p v0 r0 m n), pt_T (pt_WV p v0 r0) (fX10_whose_62 k29 l0 l1 l2 l3 l4 m) (fX10_whose_62 k29' l0' l1' l2' l3' l4' n) := by
  intro l0 l0' hl0 l1 l1' hl1 l2 l2' hl2 l3 l3' hl3 l4 l4' hl4 m n hq
  obtain ⟨rfl, dl0⟩ := hl0
  subst hl1
  subst hl2
  subst hl3
  subst hl4
  unfold fX10_whose_62
  exact (hk29 _ _ (pt_rf dl0) _ _ rfl _ _ rfl _ _ rfl _ _ rfl _ _ hq)
theorem zX10_whose_29 {p : Nat → Nat} {v0 r0 : ml_M} : ∀ (fu : Nat) (l0 l0' : Nat) (hl0 : pt_r p l0 l0') (l1 l1' : Int32) (hl1 : l1 = l1') (l2 l2' : Int32) (hl2 : l2 = l2') (l3 l3' : Int32) (hl3 : l3 = l3') (l4 l4' : Int32) (hl4 : l4 = l4') (m n : ml_M) (hq : pt_Q p v0 r0 m n), pt_T (pt_WV p v0 r0) (fX10_whose_29 fu l0 l1 l2 l3 l4 m) (fX10_whose_29 fu l0' l1' l2' l3' l4' n) := by
  intro fu
  induction fu with
  | zero => intro l0 l0' hl0 l1 l1' hl1 l2 l2' hl2 l3 l3' hl3 l4 l4' hl4 m n hq; exact pt_none
  | succ fu ih =>
  intro l0 l0' hl0 l1 l1' hl1 l2 l2' hl2 l3 l3' hl3 l4 l4' hl4 m n hq
  obtain ⟨rfl, dl0⟩ := hl0
  subst hl1
  subst hl2
  subst hl3
  subst hl4
  have hk29 := ih
  unfold fX10_whose_29
  exact (pt_ck (pt_kc hq (pt_rf dl0)) fun hc1537 => (pt_letr (pt_R hq (pt_rf dl0) hc1537) fun a1538 d_a1538 => (pt_ck (pt_kc hq (pt_rf d_a1538)) fun hc1539 => (pt_ite (pt_e2 (fun (a b : Int32) => b ≤ a) rfl (pt_I hq (pt_rf d_a1538) hc1539)) (fun _ => (pt_retV rfl hq)) (fun _ => (pt_letr (pt_R hq (pt_rf dl0) hc1537) fun a1540 d_a1540 => (pt_ck (pt_kc hq (pt_rf d_a1540)) fun hc1541 => (pt_b1 (zX7_withPair _ _ (pt_rf d_a1540) _ _ rfl _ _ rfl _ _ rfl _ _ hq) fun r1542 => (pt_ite rfl (fun _ => (zX10_whose_62 hk29  _ _ (pt_rf dl0) _ _ rfl _ _ rfl _ _ rfl _ _ rfl _ _ hq)) (fun _ => (pt_leti rfl fun x1543 => (zX10_whose_62 hk29  _ _ (pt_rf dl0) _ _ rfl _ _ rfl _ _ rfl _ _ rfl _ _ hq))))))))))))
theorem zX10_whose {p : Nat → Nat} {v0 r0 : ml_M} : ∀ (l0 l0' : Nat) (hl0 : pt_r p l0 l0') (l1 l1' : Int32) (hl1 : l1 = l1') (l2 l2' : Int32) (hl2 : l2 = l2') (m n : ml_M) (hq : pt_Q p v0 r0 m n), pt_T (pt_WV p v0 r0) (fX10_whose l0 l1 l2 m) (fX10_whose l0' l1' l2' n) := by
  intro l0 l0' hl0 l1 l1' hl1 l2 l2' hl2 m n hq
  obtain ⟨rfl, dl0⟩ := hl0
  subst hl1
  subst hl2
  unfold fX10_whose
  exact (pt_ck (pt_kc hq (pt_rf dl0)) fun hc1544 => (pt_b1 (zX10_isTrunk _ _ (pt_rf dl0) _ _ rfl _ _ hq) fun r1545 => (pt_ite rfl (fun _ => (pt_retV rfl hq)) (fun _ => (pt_b1 (zX10_within _ _ rfl _ _ rfl _ _ rfl _ _ hq) fun r1546 => (pt_ite rfl (fun _ => (pt_retV rfl hq)) (fun _ => (pt_b1m (zX10_refreshSharings _ _ (pt_rf dl0) _ _ hq) fun m1547 n1548 hq1549 => (zX10_whose_29  ml_fu _ _ (pt_rf dl0) _ _ rfl _ _ rfl _ _ rfl _ _ rfl _ _ hq1549)))))))))
theorem zX7_isSharing_80 {p : Nat → Nat} {v0 r0 : ml_M} : ∀ (l0 l0' : Nat) (hl0 : pt_r p l0 l0') (l2 l2' : Int32) (hl2 : l2 = l2') (m n : ml_M) (hq : pt_Q p v0 r0 m n), pt_T (pt_WV p v0 r0) (fX7_isSharing_80 l0 l2 m) (fX7_isSharing_80 l0' l2' n) := by
  intro l0 l0' hl0 l2 l2' hl2 m n hq
  obtain ⟨rfl, dl0⟩ := hl0
  subst hl2
  unfold fX7_isSharing_80
  exact (pt_ck (pt_kc hq (pt_rf dl0)) fun hc1550 => (pt_letr (pt_R hq (pt_rf dl0) hc1550) fun a1551 d_a1551 => (pt_ck (pt_in hq (pt_rf d_a1551) rfl) fun hi1552 => (pt_ck (pt_z01 (pt_Ia hq (pt_rf d_a1551) hi1552.1 rfl)) fun _ => (pt_retV (pt_Ia hq (pt_rf d_a1551) hi1552.1 rfl) hq)))))
theorem zX7_isSharing_15 {p : Nat → Nat} {v0 r0 : ml_M} : ∀ (fu : Nat) (l0 l0' : Nat) (hl0 : pt_r p l0 l0') (l1 l1' : Nat) (hl1 : pt_r p l1 l1') (l2 l2' : Int32) (hl2 : l2 = l2') (l3 l3' : Int32) (hl3 : l3 = l3') (m n : ml_M) (hq : pt_Q p v0 r0 m n), pt_T (pt_WV p v0 r0) (fX7_isSharing_15 fu l0 l1 l2 l3 m) (fX7_isSharing_15 fu l0' l1' l2' l3' n) := by
  intro fu
  induction fu with
  | zero => intro l0 l0' hl0 l1 l1' hl1 l2 l2' hl2 l3 l3' hl3 m n hq; exact pt_none
  | succ fu ih =>
  intro l0 l0' hl0 l1 l1' hl1 l2 l2' hl2 l3 l3' hl3 m n hq
  obtain ⟨rfl, dl0⟩ := hl0
  obtain ⟨rfl, dl1⟩ := hl1
  subst hl2
  subst hl3
  have hk15 := ih
  unfold fX7_isSharing_15
  exact (pt_ck (pt_kc hq (pt_rf dl0)) fun hc1553 => (pt_ite (pt_e2 (fun (a b : Int32) => b ≤ a) rfl (pt_I hq (pt_rf dl0) hc1553)) (fun _ => (zX7_isSharing_80   _ _ (pt_rf dl0) _ _ rfl _ _ hq)) (fun _ => (pt_ck (pt_in hq (pt_rf dl1) rfl) fun hi1554 => (pt_leti (pt_Ia hq (pt_rf dl1) hi1554.1 rfl) fun x1555 => (pt_b1 (zX10_within _ _ rfl _ _ rfl _ _ (pt_e2 (fun (a b : Int32) => a - b) (pt_I hq (pt_rf dl0) hc1553) rfl) _ _ hq) fun r1556 => (pt_ite rfl (fun _ => (pt_retV rfl hq)) (fun _ => (pt_b1 (zX7_open _ _ (pt_rf dl0) _ _ rfl _ _ rfl _ _ hq) fun r1557 => (pt_b1 (zX10_has _ _ rfl _ _ rfl _ _ hq) fun r1558 => (pt_ite rfl (fun _ => (pt_retV rfl hq)) (fun _ => (pt_letr (pt_R hq (pt_rf dl0) hc1553) fun a1559 d_a1559 => (pt_ck (pt_in hq (pt_rf d_a1559) rfl) fun hi1560 => (pt_letk rfl (pt_sIa hq (pt_rf d_a1559) rfl rfl) fun m1561 n1562 em1563 hq1564 => (pt_leti rfl fun x1565 => (hk15 _ _ (pt_rf dl0) _ _ (pt_rf dl1) _ _ rfl _ _ rfl _ _ hq1564)))))))))))))))))
theorem zX7_isSharing {p : Nat → Nat} {v0 r0 : ml_M} : ∀ (l0 l0' : Nat) (hl0 : pt_r p l0 l0') (l1 l1' : Nat) (hl1 : pt_r p l1 l1') (m n : ml_M) (hq : pt_Q p v0 r0 m n), pt_T (pt_WV p v0 r0) (fX7_isSharing l0 l1 m) (fX7_isSharing l0' l1' n) := by
  intro l0 l0' hl0 l1 l1' hl1 m n hq
  obtain ⟨rfl, dl0⟩ := hl0
  obtain ⟨rfl, dl1⟩ := hl1
  unfold fX7_isSharing
  exact (pt_ck (pt_kc hq (pt_rf dl1)) fun hc1566 => (pt_ck (pt_kc hq (pt_rf dl0)) fun hc1567 => (pt_ite (pt_e2 (fun (a b : Int32) => a = b) (pt_len hq (pt_rf dl1)) (pt_I hq (pt_rf dl0) hc1567)) (fun _ => (zX7_isSharing_15  ml_fu _ _ (pt_rf dl0) _ _ (pt_rf dl1) _ _ rfl _ _ rfl _ _ hq)) (fun _ => (pt_retV rfl hq)))))
theorem zX10_firstTrunkFor_2 {p : Nat → Nat} {v0 r0 : ml_M} : ∀ (fu : Nat) (l1 l1' : Nat) (hl1 : pt_r p l1 l1') (l2 l2' : Nat) (hl2 : pt_r p l2 l2') (l3 l3' : Int32) (hl3 : l3 = l3') (m n : ml_M) (hq : pt_Q p v0 r0 m n), pt_T pt_Wv (fX10_firstTrunkFor_2 fu l1 l2 l3 m) (fX10_firstTrunkFor_2 fu l1' l2' l3' n) := by
  intro fu
  induction fu with
  | zero => intro l1 l1' hl1 l2 l2' hl2 l3 l3' hl3 m n hq; exact pt_none
  | succ fu ih =>
  intro l1 l1' hl1 l2 l2' hl2 l3 l3' hl3 m n hq
  obtain ⟨rfl, dl1⟩ := hl1
  obtain ⟨rfl, dl2⟩ := hl2
  subst hl3
  have hk2 := ih
  unfold fX10_firstTrunkFor_2
  exact (pt_ck (pt_kc hq (pt_rf dl2)) fun hc1568 => (pt_ite (pt_e2 (fun (a b : Int32) => b ≤ a) rfl (pt_len hq (pt_rf dl2))) (fun _ => (pt_rtv rfl)) (fun _ => (pt_ck (pt_kc hq (pt_rf dl1)) fun hc1569 => (pt_ck (pt_in hq (pt_rf dl2) rfl) fun hi1570 => (pt_b1 (zX10_has _ _ (pt_I hq (pt_rf dl1) hc1569) _ _ (pt_Ia hq (pt_rf dl2) hi1570.1 rfl) _ _ hq) fun r1571 => (pt_ite rfl (fun _ => (hk2 _ _ (pt_rf dl1) _ _ (pt_rf dl2) _ _ rfl _ _ hq)) (fun _ => (pt_rtv rfl)))))))))
theorem zX10_firstTrunkFor {p : Nat → Nat} {v0 r0 : ml_M} : ∀ (l0 l0' : Nat) (hl0 : pt_r p l0 l0') (l1 l1' : Nat) (hl1 : pt_r p l1 l1') (l2 l2' : Nat) (hl2 : pt_r p l2 l2') (m n : ml_M) (hq : pt_Q p v0 r0 m n), pt_T pt_Wv (fX10_firstTrunkFor l0 l1 l2 m) (fX10_firstTrunkFor l0' l1' l2' n) := by
  intro l0 l0' hl0 l1 l1' hl1 l2 l2' hl2 m n hq
  obtain ⟨rfl, dl0⟩ := hl0
  obtain ⟨rfl, dl1⟩ := hl1
  obtain ⟨rfl, dl2⟩ := hl2
  unfold fX10_firstTrunkFor
  exact (zX10_firstTrunkFor_2  ml_fu _ _ (pt_rf dl1) _ _ (pt_rf dl2) _ _ rfl _ _ hq)
theorem zX10_moves_163 {p : Nat → Nat} {v0 r0 : ml_M} {k88 k88' : Nat → Int32 → Nat → Nat → Int32 → Int32 → ml_M → Option (Int32 × ml_M)} (hk88 : ∀ (l0 l0' : Nat) (hl0 : pt_r p l0 l0') (l2 l2' : Int32) (hl2 : l2 = l2') (l3 l3' : Nat) (hl3 : pt_r p l3 l3') (l4 l4' : Nat) (hl4 : pt_r p l4 l4') (l5 l5' : Int32) (hl5 : l5 = l5') (l6 l6' : Int32) (hl6 : l6 = l6') (m n : ml_M) (hq : pt_Q p v0 r0 m n), pt_T (pt_WV p v0 r0) (k88 l0 l2 l3 l4 l5 l6 m) (k88' l0' l2' l3' l4' l5' l6' n)) : ∀ (l0 l0' : Nat) (hl0 : pt_r p l0 l0') (l2 l2' : Int32) (hl2 : l2 = l2') (l3 l3' : Nat) (hl3 : pt_r p l3 l3') (l4 l4' : Nat) (hl4 : pt_r p l4 l4') (l5 l5' : Int32) (hl5 : l5 = l5') (l6 l6' : Int32) (hl6 : l6 = l6') (m n : ml_M) (hq : pt_Q p v0 r0 m n), pt_T (pt_WV p v0 r0) (fX10_moves_163 k88 l0 l2 l3 l4 l5 l6 m) (fX10_moves_163 k88' l0' l2' l3' l4' l5' l6' n) := by
  intro l0 l0' hl0 l2 l2' hl2 l3 l3' hl3 l4 l4' hl4 l5 l5' hl5 l6 l6' hl6 m n hq
  obtain ⟨rfl, dl0⟩ := hl0
  subst hl2
  obtain ⟨rfl, dl3⟩ := hl3
  obtain ⟨rfl, dl4⟩ := hl4
  subst hl5
  subst hl6
  unfold fX10_moves_163
  exact (hk88 _ _ (pt_rf dl0) _ _ rfl _ _ (pt_rf dl3) _ _ (pt_rf dl4) _ _ rfl _ _ rfl _ _ hq)
theorem zX10_moves_169 {p : Nat → Nat} {v0 r0 : ml_M} : ∀ (l0 l0' : Nat) (hl0 : pt_r p l0 l0') (l2 l2' : Int32) (hl2 : l2 = l2') (l4 l4' : Nat) (hl4 : pt_r p l4 l4') (l5 l5' : Int32) (hl5 : l5 = l5') (m n : ml_M) (hq : pt_Q p v0 r0 m n), pt_T (pt_WV p v0 r0) (fX10_moves_169 l0 l2 l4 l5 m) (fX10_moves_169 l0' l2' l4' l5' n) := by
  intro l0 l0' hl0 l2 l2' hl2 l4 l4' hl4 l5 l5' hl5 m n hq
  obtain ⟨rfl, dl0⟩ := hl0
  subst hl2
  obtain ⟨rfl, dl4⟩ := hl4
  subst hl5
  unfold fX10_moves_169
  exact (pt_ck (pt_kc hq (pt_rf dl0)) fun hc1572 => (pt_letr (pt_R hq (pt_rf dl0) hc1572) fun a1573 d_a1573 => (pt_b2r (zJ7_copyOf_59c91 _ _ (pt_rf dl4) _ _ rfl _ _ hq) fun a1574 m1575 n1576 d_a1574 hq1577 => (pt_ck (pt_kc hq1577 (pt_rf d_a1574)) fun hc1579 => (pt_ck (pt_in hq1577 (pt_rf d_a1573) rfl) fun hi1578 => (pt_letk rfl (pt_sRa hq1577 (pt_rf d_a1573) rfl (pt_rf d_a1574)) fun m1580 n1581 em1582 hq1583 => (pt_retV rfl hq1583)))))))
theorem zX10_moves_88 {p : Nat → Nat} {v0 r0 : ml_M} : ∀ (fu : Nat) (l0 l0' : Nat) (hl0 : pt_r p l0 l0') (l2 l2' : Int32) (hl2 : l2 = l2') (l3 l3' : Nat) (hl3 : pt_r p l3 l3') (l4 l4' : Nat) (hl4 : pt_r p l4 l4') (l5 l5' : Int32) (hl5 : l5 = l5') (l6 l6' : Int32) (hl6 : l6 = l6') (m n : ml_M) (hq : pt_Q p v0 r0 m n), pt_T (pt_WV p v0 r0) (fX10_moves_88 fu l0 l2 l3 l4 l5 l6 m) (fX10_moves_88 fu l0' l2' l3' l4' l5' l6' n) := by
  intro fu
  induction fu with
  | zero => intro l0 l0' hl0 l2 l2' hl2 l3 l3' hl3 l4 l4' hl4 l5 l5' hl5 l6 l6' hl6 m n hq; exact pt_none
  | succ fu ih =>
  intro l0 l0' hl0 l2 l2' hl2 l3 l3' hl3 l4 l4' hl4 l5 l5' hl5 l6 l6' hl6 m n hq
  obtain ⟨rfl, dl0⟩ := hl0
  subst hl2
  obtain ⟨rfl, dl3⟩ := hl3
  obtain ⟨rfl, dl4⟩ := hl4
  subst hl5
  subst hl6
  have hk88 := ih
  unfold fX10_moves_88
  exact (pt_ck (pt_kc hq (pt_rf dl0)) fun hc1584 => (pt_ite (pt_e2 (fun (a b : Int32) => b ≤ a) rfl (pt_I hq (pt_rf dl0) hc1584)) (fun _ => (zX10_moves_169   _ _ (pt_rf dl0) _ _ rfl _ _ (pt_rf dl4) _ _ rfl _ _ hq)) (fun _ => (pt_letr (pt_R hq (pt_rf dl0) hc1584) fun a1585 d_a1585 => (pt_ck (pt_in hq (pt_rf d_a1585) rfl) fun hi1586 => pt_letr (pt_Ra hq (pt_rf d_a1585) hi1586.1 rfl) fun a1587 d_a1587 => (pt_ck (pt_kc hq (pt_rf d_a1587)) fun hc1588 => (pt_b1 (zX10_isTrunk _ _ (pt_rf dl0) _ _ (pt_I hq (pt_rf d_a1587) hc1588) _ _ hq) fun r1589 => (pt_ite rfl (fun _ => (zX10_moves_163 hk88  _ _ (pt_rf dl0) _ _ rfl _ _ (pt_rf dl3) _ _ (pt_rf dl4) _ _ rfl _ _ rfl _ _ hq)) (fun _ => (pt_ck (pt_in hq (pt_rf dl3) (pt_I hq (pt_rf d_a1587) hc1588)) fun hi1590 => (pt_b1 (zX10_has _ _ (pt_I hq (pt_rf d_a1587) hc1588) _ _ (pt_Ia hq (pt_rf dl3) hi1590.1 (pt_I hq (pt_rf d_a1587) hc1588)) _ _ hq) fun r1591 => (pt_ite rfl (fun _ => (pt_ck (pt_in hq (pt_rf dl4) rfl) fun hi1592 => (pt_letk rfl (pt_sIa hq (pt_rf dl4) rfl rfl) fun m1593 n1594 em1595 hq1596 => (pt_b1 (zX10_firstTrunkFor _ _ (pt_rf dl0) _ _ (pt_rf d_a1587) _ _ (pt_rf dl3) _ _ hq1596) fun r1597 => (pt_ck (pt_in hq1596 (pt_rf dl4) rfl) fun hi1598 => (pt_letk rfl (pt_sIa hq1596 (pt_rf dl4) rfl rfl) fun m1599 n1600 em1601 hq1602 => (zX10_moves_163 hk88  _ _ (pt_rf dl0) _ _ rfl _ _ (pt_rf dl3) _ _ (pt_rf dl4) _ _ rfl _ _ rfl _ _ hq1602))))))) (fun _ => (zX10_moves_163 hk88  _ _ (pt_rf dl0) _ _ rfl _ _ (pt_rf dl3) _ _ (pt_rf dl4) _ _ rfl _ _ rfl _ _ hq))))))))))))))
theorem zX10_moves {p : Nat → Nat} {v0 r0 : ml_M} : ∀ (l0 l0' : Nat) (hl0 : pt_r p l0 l0') (l1 l1' : Int32) (hl1 : l1 = l1') (l2 l2' : Int32) (hl2 : l2 = l2') (m n : ml_M) (hq : pt_Q p v0 r0 m n), pt_T (pt_WV p v0 r0) (fX10_moves l0 l1 l2 m) (fX10_moves l0' l1' l2' n) := by
  intro l0 l0' hl0 l1 l1' hl1 l2 l2' hl2 m n hq
  obtain ⟨rfl, dl0⟩ := hl0
  subst hl1
  subst hl2
  unfold fX10_moves
  exact (pt_b1 (zX10_isRow _ _ rfl _ _ hq) fun r1603 => (pt_ite rfl (fun _ => (pt_retV rfl hq)) (fun _ => (pt_b1 (zX10_isRow _ _ rfl _ _ hq) fun r1604 => (pt_ite rfl (fun _ => (pt_retV rfl hq)) (fun _ => (pt_ck (pt_kc hq (pt_rf dl0)) fun hc1605 => (pt_letr (pt_R hq (pt_rf dl0) hc1605) fun a1606 d_a1606 => (pt_ck (pt_in hq (pt_rf d_a1606) rfl) fun hi1607 => pt_letr (pt_Ra hq (pt_rf d_a1606) hi1607.1 rfl) fun a1608 d_a1608 => (pt_ite (pt_nul hq.1 (pt_rf d_a1608)) (fun _ => (pt_b2 (zX10_found _ _ (pt_rf dl0) _ _ rfl _ _ hq) fun r1637 m1638 n1639 hq1640 => (pt_retV rfl hq1640))) (fun _ => (pt_ck (pt_kc hq (pt_rf d_a1608)) fun hc1609 => (pt_letr (pt_R hq (pt_rf dl0) hc1605) fun a1610 d_a1610 => (pt_ck (pt_kc hq (pt_rf d_a1610)) fun hc1611 => (pt_ite (pt_e2 (fun (a b : Int32) => a = b) (pt_len hq (pt_rf d_a1608)) (pt_I hq (pt_rf d_a1610) hc1611)) (fun _ => (pt_b1m (zX10_refreshSharings _ _ (pt_rf dl0) _ _ hq) fun m1612 n1613 hq1614 => (pt_ck (pt_kc hq1614 (pt_rf dl0)) fun hc1615 => (pt_letr (pt_R hq1614 (pt_rf dl0) hc1615) fun a1616 d_a1616 => (pt_ck (pt_kc hq1614 (pt_rf d_a1616)) fun hc1617 => (pt_b2 (zX7_isSharing _ _ (pt_rf d_a1616) _ _ (pt_rf d_a1608) _ _ hq1614) fun r1618 m1619 n1620 hq1621 => (pt_ite rfl (fun _ => (pt_ck (pt_kc hq1621 (pt_rf dl0)) fun hc1628 => (pt_b2 (zX10_found _ _ (pt_rf dl0) _ _ rfl _ _ hq1621) fun r1629 m1630 n1631 hq1632 => (pt_retV rfl hq1632)))) (fun _ => (pt_ck (pt_kc hq1621 (pt_rf dl0)) fun hc1622 => (pt_ck (pt_lenc (pt_e2 (fun (a b : Int32) => a * b) rfl (pt_I hq1621 (pt_rf dl0) hc1622))) fun _ => (pt_al hq1621 (pt_e1 (fun (a : Int32) => a.toNatClampNeg) (pt_e2 (fun (a b : Int32) => a * b) rfl (pt_I hq1621 (pt_rf dl0) hc1622))) (pt_e1 (fun (a : Int32) => a.toNatClampNeg) (pt_e2 (fun (a b : Int32) => a * b) rfl (pt_I hq1621 (pt_rf dl0) hc1622))) fun a1623 m1624 n1625 d_a1623 hc1626 hq1627 => (zX10_moves_88  ml_fu _ _ (pt_rf dl0) _ _ rfl _ _ (pt_rf d_a1608) _ _ (pt_rf d_a1623) _ _ rfl _ _ rfl _ _ hq1627)))))))))))) (fun _ => (pt_b2 (zX10_found _ _ (pt_rf dl0) _ _ rfl _ _ hq) fun r1633 m1634 n1635 hq1636 => (pt_retV rfl hq1636))))))))))))))))))
theorem zX10_tell {p : Nat → Nat} {v0 r0 : ml_M} : ∀ (l0 l0' : Nat) (hl0 : pt_r p l0 l0') (l1 l1' : Int32) (hl1 : l1 = l1') (m n : ml_M) (hq : pt_Q p v0 r0 m n), pt_T (pt_WV p v0 r0) (fX10_tell l0 l1 m) (fX10_tell l0' l1' n) := by
  intro l0 l0' hl0 l1 l1' hl1 m n hq
  obtain ⟨rfl, dl0⟩ := hl0
  subst hl1
  unfold fX10_tell
  exact (pt_ck (pt_kc hq (pt_rf dl0)) fun hc1641 => (pt_letk rfl (pt_sI hq (pt_rf dl0) rfl) fun m1642 n1643 em1644 hq1645 => (pt_retV rfl hq1645)))
theorem zX10_at_36 {p : Nat → Nat} {v0 r0 : ml_M} : ∀ (l0 l0' : Nat) (hl0 : pt_r p l0 l0') (m n : ml_M) (hq : pt_Q p v0 r0 m n), pt_T (pt_WV p v0 r0) (fX10_at_36 l0 m) (fX10_at_36 l0' n) := by
  intro l0 l0' hl0 m n hq
  obtain ⟨rfl, dl0⟩ := hl0
  unfold fX10_at_36
  exact (pt_ck (pt_kc hq (pt_rf dl0)) fun hc1646 => (pt_b2 (zX10_found _ _ (pt_rf dl0) _ _ rfl _ _ hq) fun r1647 m1648 n1649 hq1650 => (pt_retV rfl hq1650)))
theorem zX10_at {p : Nat → Nat} {v0 r0 : ml_M} : ∀ (l0 l0' : Nat) (hl0 : pt_r p l0 l0') (l1 l1' : Int32) (hl1 : l1 = l1') (l2 l2' : Int32) (hl2 : l2 = l2') (m n : ml_M) (hq : pt_Q p v0 r0 m n), pt_T (pt_WV p v0 r0) (fX10_at l0 l1 l2 m) (fX10_at l0' l1' l2' n) := by
  intro l0 l0' hl0 l1 l1' hl1 l2 l2' hl2 m n hq
  obtain ⟨rfl, dl0⟩ := hl0
  subst hl1
  subst hl2
  unfold fX10_at
  exact (pt_b1 (zX10_isRow _ _ rfl _ _ hq) fun r1651 => (pt_ite rfl (fun _ => (pt_retV rfl hq)) (fun _ => (pt_ck (pt_kc hq (pt_rf dl0)) fun hc1652 => (pt_letr (pt_R hq (pt_rf dl0) hc1652) fun a1653 d_a1653 => (pt_ck (pt_in hq (pt_rf d_a1653) rfl) fun hi1654 => pt_letr (pt_Ra hq (pt_rf d_a1653) hi1654.1 rfl) fun a1655 d_a1655 => (pt_ite (pt_nul hq.1 (pt_rf d_a1655)) (fun _ => (pt_b2 (zX10_found _ _ (pt_rf dl0) _ _ rfl _ _ hq) fun r1662 m1663 n1664 hq1665 => (pt_retV rfl hq1665))) (fun _ => (pt_ite rfl (fun _ => (zX10_at_36   _ _ (pt_rf dl0) _ _ hq)) (fun _ => (pt_ck (pt_kc hq (pt_rf d_a1655)) fun hc1656 => (pt_ite (pt_e2 (fun (a b : Int32) => a < b) rfl (pt_len hq (pt_rf d_a1655))) (fun _ => (pt_ck (pt_in hq (pt_rf d_a1655) rfl) fun hi1657 => (pt_b2 (zX10_tell _ _ (pt_rf dl0) _ _ (pt_Ia hq (pt_rf d_a1655) hi1657.1 rfl) _ _ hq) fun r1658 m1659 n1660 hq1661 => (pt_retV rfl hq1661)))) (fun _ => (zX10_at_36   _ _ (pt_rf dl0) _ _ hq))))))))))))))
theorem zX10_thingFact {p : Nat → Nat} {v0 r0 : ml_M} : ∀ (l0 l0' : Nat) (hl0 : pt_r p l0 l0') (l1 l1' : Int32) (hl1 : l1 = l1') (l2 l2' : Int32) (hl2 : l2 = l2') (m n : ml_M) (hq : pt_Q p v0 r0 m n), pt_T pt_Wv (fX10_thingFact l0 l1 l2 m) (fX10_thingFact l0' l1' l2' n) := by
  intro l0 l0' hl0 l1 l1' hl1 l2 l2' hl2 m n hq
  obtain ⟨rfl, dl0⟩ := hl0
  subst hl1
  subst hl2
  unfold fX10_thingFact
  exact (pt_ck (pt_kc hq (pt_rf dl0)) fun hc1666 => (pt_letr (pt_R hq (pt_rf dl0) hc1666) fun a1667 d_a1667 => (pt_ck (pt_in hq (pt_rf d_a1667) rfl) fun hi1668 => pt_letr (pt_Ra hq (pt_rf d_a1667) hi1668.1 rfl) fun a1669 d_a1669 => (pt_ite rfl (fun _ => (pt_ck (pt_kc hq (pt_rf d_a1669)) fun hc1670 => (pt_rtv (pt_I hq (pt_rf d_a1669) hc1670)))) (fun _ => (pt_ite rfl (fun _ => (pt_ck (pt_kc hq (pt_rf d_a1669)) fun hc1671 => (pt_rtv (pt_I hq (pt_rf d_a1669) hc1671)))) (fun _ => (pt_ite rfl (fun _ => (pt_ck (pt_kc hq (pt_rf d_a1669)) fun hc1672 => (pt_rtv (pt_I hq (pt_rf d_a1669) hc1672)))) (fun _ => (pt_ite rfl (fun _ => (pt_ck (pt_kc hq (pt_rf d_a1669)) fun hc1673 => (pt_rtv (pt_I hq (pt_rf d_a1669) hc1673)))) (fun _ => (pt_ck (pt_kc hq (pt_rf d_a1669)) fun hc1674 => (pt_ite (pt_e1 (fun (a : Int32) => a = 0) (pt_I hq (pt_rf d_a1669) hc1674)) (fun _ => (pt_rtv rfl)) (fun _ => (pt_rtv rfl)))))))))))))))
theorem zX10_told {p : Nat → Nat} {v0 r0 : ml_M} : ∀ (l0 l0' : Nat) (hl0 : pt_r p l0 l0') (l1 l1' : Int32) (hl1 : l1 = l1') (l2 l2' : Int32) (hl2 : l2 = l2') (m n : ml_M) (hq : pt_Q p v0 r0 m n), pt_T (pt_WV p v0 r0) (fX10_told l0 l1 l2 m) (fX10_told l0' l1' l2' n) := by
  intro l0 l0' hl0 l1 l1' hl1 l2 l2' hl2 m n hq
  obtain ⟨rfl, dl0⟩ := hl0
  subst hl1
  subst hl2
  unfold fX10_told
  exact (pt_ck (pt_kc hq (pt_rf dl0)) fun hc1675 => (pt_b1 (zX10_isThing _ _ (pt_rf dl0) _ _ rfl _ _ hq) fun r1676 => (pt_ite rfl (fun _ => (pt_retV rfl hq)) (fun _ => (pt_b1 (zX10_within _ _ rfl _ _ rfl _ _ rfl _ _ hq) fun r1677 => (pt_ite rfl (fun _ => (pt_retV rfl hq)) (fun _ => (pt_b1 (zX10_thingFact _ _ (pt_rf dl0) _ _ rfl _ _ rfl _ _ hq) fun r1678 => (pt_b2 (zX10_tell _ _ (pt_rf dl0) _ _ rfl _ _ hq) fun r1679 m1680 n1681 hq1682 => (pt_retV rfl hq1682))))))))))
theorem zX10_thingsIn_28 {p : Nat → Nat} {v0 r0 : ml_M} {k4 k4' : Nat → Int32 → Int32 → Int32 → ml_M → Option Int32} (hk4 : ∀ (l0 l0' : Nat) (hl0 : pt_r p l0 l0') (l1 l1' : Int32) (hl1 : l1 = l1') (l2 l2' : Int32) (hl2 : l2 = l2') (l3 l3' : Int32) (hl3 : l3 = l3') (m n : ml_M) (hq : pt_Q p v0 r0 m n), pt_T pt_Wv (k4 l0 l1 l2 l3 m) (k4' l0' l1' l2' l3' n)) : ∀ (l0 l0' : Nat) (hl0 : pt_r p l0 l0') (l1 l1' : Int32) (hl1 : l1 = l1') (l2 l2' : Int32) (hl2 : l2 = l2') (l3 l3' : Int32) (hl3 : l3 = l3') (m n : ml_M) (hq : pt_Q p v0 r0 m n), pt_T pt_Wv (fX10_thingsIn_28 k4 l0 l1 l2 l3 m) (fX10_thingsIn_28 k4' l0' l1' l2' l3' n) := by
  intro l0 l0' hl0 l1 l1' hl1 l2 l2' hl2 l3 l3' hl3 m n hq
  obtain ⟨rfl, dl0⟩ := hl0
  subst hl1
  subst hl2
  subst hl3
  unfold fX10_thingsIn_28
  exact (hk4 _ _ (pt_rf dl0) _ _ rfl _ _ rfl _ _ rfl _ _ hq)
theorem zX10_thingsIn_4 {p : Nat → Nat} {v0 r0 : ml_M} : ∀ (fu : Nat) (l0 l0' : Nat) (hl0 : pt_r p l0 l0') (l1 l1' : Int32) (hl1 : l1 = l1') (l2 l2' : Int32) (hl2 : l2 = l2') (l3 l3' : Int32) (hl3 : l3 = l3') (m n : ml_M) (hq : pt_Q p v0 r0 m n), pt_T pt_Wv (fX10_thingsIn_4 fu l0 l1 l2 l3 m) (fX10_thingsIn_4 fu l0' l1' l2' l3' n) := by
  intro fu
  induction fu with
  | zero => intro l0 l0' hl0 l1 l1' hl1 l2 l2' hl2 l3 l3' hl3 m n hq; exact pt_none
  | succ fu ih =>
  intro l0 l0' hl0 l1 l1' hl1 l2 l2' hl2 l3 l3' hl3 m n hq
  obtain ⟨rfl, dl0⟩ := hl0
  subst hl1
  subst hl2
  subst hl3
  have hk4 := ih
  unfold fX10_thingsIn_4
  exact (pt_ck (pt_kc hq (pt_rf dl0)) fun hc1683 => (pt_ite (pt_e2 (fun (a b : Int32) => b ≤ a) rfl (pt_I hq (pt_rf dl0) hc1683)) (fun _ => (pt_rtv rfl)) (fun _ => (pt_letr (pt_R hq (pt_rf dl0) hc1683) fun a1684 d_a1684 => (pt_ck (pt_in hq (pt_rf d_a1684) rfl) fun hi1685 => pt_letr (pt_Ra hq (pt_rf d_a1684) hi1685.1 rfl) fun a1686 d_a1686 => (pt_ck (pt_kc hq (pt_rf d_a1686)) fun hc1687 => (pt_ite (pt_e2 (fun (a b : Int32) => a = b) (pt_I hq (pt_rf d_a1686) hc1687) rfl) (fun _ => (zX10_thingsIn_28 hk4  _ _ (pt_rf dl0) _ _ rfl _ _ rfl _ _ rfl _ _ hq)) (fun _ => (zX10_thingsIn_28 hk4  _ _ (pt_rf dl0) _ _ rfl _ _ rfl _ _ rfl _ _ hq)))))))))
theorem zX10_thingsIn {p : Nat → Nat} {v0 r0 : ml_M} : ∀ (l0 l0' : Nat) (hl0 : pt_r p l0 l0') (l1 l1' : Int32) (hl1 : l1 = l1') (m n : ml_M) (hq : pt_Q p v0 r0 m n), pt_T pt_Wv (fX10_thingsIn l0 l1 m) (fX10_thingsIn l0' l1' n) := by
  intro l0 l0' hl0 l1 l1' hl1 m n hq
  obtain ⟨rfl, dl0⟩ := hl0
  subst hl1
  unfold fX10_thingsIn
  exact (zX10_thingsIn_4  ml_fu _ _ (pt_rf dl0) _ _ rfl _ _ rfl _ _ rfl _ _ hq)
theorem zX10_trunkFact {p : Nat → Nat} {v0 r0 : ml_M} : ∀ (l0 l0' : Nat) (hl0 : pt_r p l0 l0') (l1 l1' : Int32) (hl1 : l1 = l1') (l2 l2' : Int32) (hl2 : l2 = l2') (m n : ml_M) (hq : pt_Q p v0 r0 m n), pt_T pt_Wv (fX10_trunkFact l0 l1 l2 m) (fX10_trunkFact l0' l1' l2' n) := by
  intro l0 l0' hl0 l1 l1' hl1 l2 l2' hl2 m n hq
  obtain ⟨rfl, dl0⟩ := hl0
  subst hl1
  subst hl2
  unfold fX10_trunkFact
  exact (pt_ck (pt_kc hq (pt_rf dl0)) fun hc1688 => (pt_letr (pt_R hq (pt_rf dl0) hc1688) fun a1689 d_a1689 => (pt_ck (pt_kc hq (pt_rf d_a1689)) fun hc1690 => (pt_letr (pt_R hq (pt_rf d_a1689) hc1690) fun a1691 d_a1691 => (pt_ck (pt_in hq (pt_rf d_a1691) rfl) fun hi1692 => pt_letr (pt_Ra hq (pt_rf d_a1691) hi1692.1 rfl) fun a1693 d_a1693 => (pt_ite rfl (fun _ => (pt_ck (pt_kc hq (pt_rf d_a1693)) fun hc1694 => (pt_rtv (pt_I hq (pt_rf d_a1693) hc1694)))) (fun _ => (pt_ite rfl (fun _ => (pt_ck (pt_kc hq (pt_rf d_a1693)) fun hc1695 => (pt_rtv (pt_I hq (pt_rf d_a1693) hc1695)))) (fun _ => (pt_ite rfl (fun _ => (pt_ck (pt_kc hq (pt_rf d_a1693)) fun hc1696 => (pt_rtv (pt_I hq (pt_rf d_a1693) hc1696)))) (fun _ => (pt_b1 (zX10_thingsIn _ _ (pt_rf dl0) _ _ rfl _ _ hq) fun r1697 => (pt_rtv rfl)))))))))))))
theorem zX10_trunk {p : Nat → Nat} {v0 r0 : ml_M} : ∀ (l0 l0' : Nat) (hl0 : pt_r p l0 l0') (l1 l1' : Int32) (hl1 : l1 = l1') (l2 l2' : Int32) (hl2 : l2 = l2') (m n : ml_M) (hq : pt_Q p v0 r0 m n), pt_T (pt_WV p v0 r0) (fX10_trunk l0 l1 l2 m) (fX10_trunk l0' l1' l2' n) := by
  intro l0 l0' hl0 l1 l1' hl1 l2 l2' hl2 m n hq
  obtain ⟨rfl, dl0⟩ := hl0
  subst hl1
  subst hl2
  unfold fX10_trunk
  exact (pt_ck (pt_kc hq (pt_rf dl0)) fun hc1698 => (pt_b1 (zX10_isTrunk _ _ (pt_rf dl0) _ _ rfl _ _ hq) fun r1699 => (pt_ite rfl (fun _ => (pt_retV rfl hq)) (fun _ => (pt_b1 (zX10_within _ _ rfl _ _ rfl _ _ rfl _ _ hq) fun r1700 => (pt_ite rfl (fun _ => (pt_retV rfl hq)) (fun _ => (pt_b1 (zX10_trunkFact _ _ (pt_rf dl0) _ _ rfl _ _ rfl _ _ hq) fun r1701 => (pt_b2 (zX10_tell _ _ (pt_rf dl0) _ _ rfl _ _ hq) fun r1702 m1703 n1704 hq1705 => (pt_retV rfl hq1705))))))))))
theorem zX0_init {p : Nat → Nat} {v0 r0 : ml_M} : ∀ (l0 l0' : Nat) (hl0 : pt_r p l0 l0') (l1 l1' : Int32) (hl1 : l1 = l1') (l2 l2' : Int32) (hl2 : l2 = l2') (l3 l3' : Int32) (hl3 : l3 = l3') (l4 l4' : Int32) (hl4 : l4 = l4') (m n : ml_M) (hq : pt_Q p v0 r0 m n), pt_T (pt_WM p v0 r0) (fX0_init l0 l1 l2 l3 l4 m) (fX0_init l0' l1' l2' l3' l4' n) := by
  intro l0 l0' hl0 l1 l1' hl1 l2 l2' hl2 l3 l3' hl3 l4 l4' hl4 m n hq
  obtain ⟨rfl, dl0⟩ := hl0
  subst hl1
  subst hl2
  subst hl3
  subst hl4
  unfold fX0_init
  exact (pt_ck (pt_nzr (pt_rf dl0)) fun _ => (pt_ck (pt_kc hq (pt_rf dl0)) fun hc1706 => (pt_letk rfl (pt_sI hq (pt_rf dl0) rfl) fun m1707 n1708 em1709 hq1710 => (pt_letk rfl (pt_sI hq1710 (pt_rf dl0) rfl) fun m1711 n1712 em1713 hq1714 => (pt_letk rfl (pt_sI hq1714 (pt_rf dl0) rfl) fun m1715 n1716 em1717 hq1718 => (pt_letk rfl (pt_sI hq1718 (pt_rf dl0) rfl) fun m1719 n1720 em1721 hq1722 => (pt_retM hq1722)))))))
theorem zX10_bit {p : Nat → Nat} {v0 r0 : ml_M} : ∀ (l0 l0' : Nat) (hl0 : pt_r p l0 l0') (l1 l1' : Int32) (hl1 : l1 = l1') (l2 l2' : Int32) (hl2 : l2 = l2') (l3 l3' : Int32) (hl3 : l3 = l3') (l4 l4' : Int32) (hl4 : l4 = l4') (m n : ml_M) (hq : pt_Q p v0 r0 m n), pt_T (pt_WV p v0 r0) (fX10_bit l0 l1 l2 l3 l4 m) (fX10_bit l0' l1' l2' l3' l4' n) := by
  intro l0 l0' hl0 l1 l1' hl1 l2 l2' hl2 l3 l3' hl3 l4 l4' hl4 m n hq
  obtain ⟨rfl, dl0⟩ := hl0
  subst hl1
  subst hl2
  subst hl3
  subst hl4
  unfold fX10_bit
  exact (pt_b1 (zX10_within _ _ rfl _ _ rfl _ _ rfl _ _ hq) fun r1723 => (pt_ite rfl (fun _ => (pt_retV rfl hq)) (fun _ => (pt_b1 (zX10_within _ _ rfl _ _ rfl _ _ rfl _ _ hq) fun r1724 => (pt_ite rfl (fun _ => (pt_retV rfl hq)) (fun _ => (pt_b1 (zX10_within _ _ rfl _ _ rfl _ _ rfl _ _ hq) fun r1725 => (pt_ite rfl (fun _ => (pt_retV rfl hq)) (fun _ => (pt_b1 (zX10_within _ _ rfl _ _ rfl _ _ rfl _ _ hq) fun r1726 => (pt_ite rfl (fun _ => (pt_retV rfl hq)) (fun _ => (pt_ck (pt_kc hq (pt_rf dl0)) fun hc1727 => (pt_ite (pt_e2 (fun (a b : Int32) => a < b) (pt_I hq (pt_rf dl0) hc1727) rfl) (fun _ => (pt_letr (pt_R hq (pt_rf dl0) hc1727) fun a1728 d_a1728 => (pt_al hq rfl rfl fun a1729 m1730 n1731 d_a1729 hc1732 hq1733 => (pt_b1m (zX0_init _ _ (pt_rf d_a1729) _ _ rfl _ _ rfl _ _ rfl _ _ rfl _ _ hq1733) fun m1734 n1735 hq1736 => (pt_ck (pt_kc hq1736 (pt_rf d_a1729)) fun hc1738 => (pt_ck (pt_in hq1736 (pt_rf d_a1728) (pt_I hq (pt_rf dl0) hc1727)) fun hi1737 => (pt_letk rfl (pt_sRa hq1736 (pt_rf d_a1728) (pt_I hq (pt_rf dl0) hc1727) (pt_rf d_a1729)) fun m1739 n1740 em1741 hq1742 => (pt_ck (pt_kc hq1742 (pt_rf dl0)) fun hc1743 => (pt_letr (pt_R hq1742 (pt_rf dl0) hc1743) fun a1744 d_a1744 => (pt_ck (pt_kc hq1742 (pt_rf d_a1744)) fun hc1745 => (pt_letk rfl (pt_sI hq1742 (pt_rf d_a1744) rfl) fun m1746 n1747 em1748 hq1749 => (pt_letk rfl (pt_sI hq1749 (pt_rf dl0) (pt_e2 (fun (a b : Int32) => a + b) (pt_I hq1749 (pt_rf dl0) (ml_kk em1748 hc1743)) rfl)) fun m1750 n1751 em1752 hq1753 => (pt_retV (pt_I hq1749 (pt_rf dl0) (ml_kk em1748 hc1743)) hq1753))))))))))))) (fun _ => (pt_retV rfl hq))))))))))))))))
theorem zX0_meets {p : Nat → Nat} {v0 r0 : ml_M} : ∀ (l0 l0' : Nat) (hl0 : pt_r p l0 l0') (l1 l1' : Nat) (hl1 : pt_r p l1 l1') (m n : ml_M) (hq : pt_Q p v0 r0 m n), pt_T pt_Wv (fX0_meets l0 l1 m) (fX0_meets l0' l1' n) := by
  intro l0 l0' hl0 l1 l1' hl1 m n hq
  obtain ⟨rfl, dl0⟩ := hl0
  obtain ⟨rfl, dl1⟩ := hl1
  unfold fX0_meets
  exact (pt_ck (pt_kc hq (pt_rf dl0)) fun hc1754 => (pt_ck (pt_kc hq (pt_rf dl1)) fun hc1755 => (pt_ite (pt_e2 (fun (a b : Int32) => a = b) (pt_e2 (fun (a b : Int32) => a + b) (pt_I hq (pt_rf dl0) hc1754) (pt_I hq (pt_rf dl1) hc1755)) rfl) (fun _ => (pt_ite (pt_e2 (fun (a b : Int32) => a = b) (pt_I hq (pt_rf dl0) hc1754) (pt_I hq (pt_rf dl1) hc1755)) (fun _ => (pt_ite (pt_e2 (fun (a b : Int32) => a = b) (pt_I hq (pt_rf dl0) hc1754) (pt_I hq (pt_rf dl1) hc1755)) (fun _ => (pt_rtv rfl)) (fun _ => (pt_rtv rfl)))) (fun _ => (pt_rtv rfl)))) (fun _ => (pt_rtv rfl)))))
theorem zX4_slot {p : Nat → Nat} {v0 r0 : ml_M} : ∀ (l0 l0' : Int32) (hl0 : l0 = l0') (l1 l1' : Int32) (hl1 : l1 = l1') (m n : ml_M) (hq : pt_Q p v0 r0 m n), pt_T pt_Wv (fX4_slot l0 l1 m) (fX4_slot l0' l1' n) := by
  intro l0 l0' hl0 l1 l1' hl1 m n hq
  subst hl0
  subst hl1
  unfold fX4_slot
  exact (pt_rtv rfl)
theorem zX4_follow_165 {p : Nat → Nat} {v0 r0 : ml_M} {k36 k36' : Nat → Int32 → Int32 → Int32 → Int32 → ml_M → Option ml_M} (hk36 : ∀ (l0 l0' : Nat) (hl0 : pt_r p l0 l0') (l1 l1' : Int32) (hl1 : l1 = l1') (l2 l2' : Int32) (hl2 : l2 = l2') (l3 l3' : Int32) (hl3 : l3 = l3') (l4 l4' : Int32) (hl4 : l4 = l4') (m n : ml_M) (hq : pt_Q p v0 r0 m n), pt_T (pt_WM p v0 r0) (k36 l0 l1 l2 l3 l4 m) (k36' l0' l1' l2' l3' l4' n)) : ∀ (l0 l0' : Nat) (hl0 : pt_r p l0 l0') (l1 l1' : Int32) (hl1 : l1 = l1') (l2 l2' : Int32) (hl2 : l2 = l2') (l3 l3' : Int32) (hl3 : l3 = l3') (l4 l4' : Int32) (hl4 : l4 = l4') (m n : ml_M) (hq : pt_Q p v0 r0 m n), pt_T (pt_WM p v0 r0) (fX4_follow_165 k36 l0 l1 l2 l3 l4 m) (fX4_follow_165 k36' l0' l1' l2' l3' l4' n) := by
  intro l0 l0' hl0 l1 l1' hl1 l2 l2' hl2 l3 l3' hl3 l4 l4' hl4 m n hq
  obtain ⟨rfl, dl0⟩ := hl0
  subst hl1
  subst hl2
  subst hl3
  subst hl4
  unfold fX4_follow_165
  exact (hk36 _ _ (pt_rf dl0) _ _ rfl _ _ rfl _ _ rfl _ _ rfl _ _ hq)
theorem zX4_follow_114 {p : Nat → Nat} {v0 r0 : ml_M} {k36 k36' : Nat → Int32 → Int32 → Int32 → Int32 → ml_M → Option ml_M} (hk36 : ∀ (l0 l0' : Nat) (hl0 : pt_r p l0 l0') (l1 l1' : Int32) (hl1 : l1 = l1') (l2 l2' : Int32) (hl2 : l2 = l2') (l3 l3' : Int32) (hl3 : l3 = l3') (l4 l4' : Int32) (hl4 : l4 = l4') (m n : ml_M) (hq : pt_Q p v0 r0 m n), pt_T (pt_WM p v0 r0) (k36 l0 l1 l2 l3 l4 m) (k36' l0' l1' l2' l3' l4' n)) : ∀ (l0 l0' : Nat) (hl0 : pt_r p l0 l0') (l1 l1' : Int32) (hl1 : l1 = l1') (l2 l2' : Int32) (hl2 : l2 = l2') (l3 l3' : Int32) (hl3 : l3 = l3') (l4 l4' : Int32) (hl4 : l4 = l4') (l5 l5' : Int32) (hl5 : l5 = l5') (l6 l6' : Int32) (hl6 : l6 = l6') (m n : ml_M) (hq : pt_Q p v0 r0 m n), pt_T (pt_WM p v0 r0) (fX4_follow_114 k36 l0 l1 l2 l3 l4 l5 l6 m) (fX4_follow_114 k36' l0' l1' l2' l3' l4' l5' l6' n) := by
  intro l0 l0' hl0 l1 l1' hl1 l2 l2' hl2 l3 l3' hl3 l4 l4' hl4 l5 l5' hl5 l6 l6' hl6 m n hq
  obtain ⟨rfl, dl0⟩ := hl0
  subst hl1
  subst hl2
  subst hl3
  subst hl4
  subst hl5
  subst hl6
  unfold fX4_follow_114
  exact (pt_ck (pt_kc hq (pt_rf dl0)) fun hc1756 => (pt_letr (pt_R hq (pt_rf dl0) hc1756) fun a1757 d_a1757 => (pt_ck (pt_in hq (pt_rf d_a1757) rfl) fun hi1758 => (pt_letk rfl (pt_sIa hq (pt_rf d_a1757) rfl rfl) fun m1759 n1760 em1761 hq1762 => (pt_letr (pt_R hq1762 (pt_rf dl0) (ml_kk em1761 hc1756)) fun a1763 d_a1763 => (pt_letr (pt_R hq1762 (pt_rf dl0) (ml_kk em1761 hc1756)) fun a1764 d_a1764 => (pt_ck (pt_in hq1762 (pt_rf d_a1764) rfl) fun hi1765 => (pt_ck (pt_in hq1762 (pt_rf d_a1763) rfl) fun hi1766 => (pt_letk rfl (pt_sIa hq1762 (pt_rf d_a1763) rfl (pt_Ia hq1762 (pt_rf d_a1764) hi1765.1 rfl)) fun m1767 n1768 em1769 hq1770 => (zX4_follow_165 hk36  _ _ (pt_rf dl0) _ _ rfl _ _ rfl _ _ rfl _ _ rfl _ _ hq1770))))))))))
theorem zX4_follow_91 {p : Nat → Nat} {v0 r0 : ml_M} {k36 k36' : Nat → Int32 → Int32 → Int32 → Int32 → ml_M → Option ml_M} (hk36 : ∀ (l0 l0' : Nat) (hl0 : pt_r p l0 l0') (l1 l1' : Int32) (hl1 : l1 = l1') (l2 l2' : Int32) (hl2 : l2 = l2') (l3 l3' : Int32) (hl3 : l3 = l3') (l4 l4' : Int32) (hl4 : l4 = l4') (m n : ml_M) (hq : pt_Q p v0 r0 m n), pt_T (pt_WM p v0 r0) (k36 l0 l1 l2 l3 l4 m) (k36' l0' l1' l2' l3' l4' n)) : ∀ (l0 l0' : Nat) (hl0 : pt_r p l0 l0') (l1 l1' : Int32) (hl1 : l1 = l1') (l2 l2' : Int32) (hl2 : l2 = l2') (l3 l3' : Int32) (hl3 : l3 = l3') (l4 l4' : Int32) (hl4 : l4 = l4') (l5 l5' : Int32) (hl5 : l5 = l5') (t0 t0' : Int32) (ht0 : t0 = t0') (t1 t1' : Int32) (ht1 : t1 = t1') (m n : ml_M) (hq : pt_Q p v0 r0 m n), pt_T (pt_WM p v0 r0) (fX4_follow_91 k36 l0 l1 l2 l3 l4 l5 t0 t1 m) (fX4_follow_91 k36' l0' l1' l2' l3' l4' l5' t0' t1' n) := by
  intro l0 l0' hl0 l1 l1' hl1 l2 l2' hl2 l3 l3' hl3 l4 l4' hl4 l5 l5' hl5 t0 t0' ht0 t1 t1' ht1 m n hq
  obtain ⟨rfl, dl0⟩ := hl0
  subst hl1
  subst hl2
  subst hl3
  subst hl4
  subst hl5
  subst ht0
  subst ht1
  unfold fX4_follow_91
  exact (pt_leti rfl fun x1771 => (pt_ck (pt_kc hq (pt_rf dl0)) fun hc1772 => (pt_letr (pt_R hq (pt_rf dl0) hc1772) fun a1773 d_a1773 => (pt_ck (pt_in hq (pt_rf d_a1773) rfl) fun hi1774 => (pt_ite (pt_e1 (fun (a : Int32) => a = 0) (pt_Ia hq (pt_rf d_a1773) hi1774.1 rfl)) (fun _ => (zX4_follow_114 hk36  _ _ (pt_rf dl0) _ _ rfl _ _ rfl _ _ rfl _ _ rfl _ _ rfl _ _ rfl _ _ hq)) (fun _ => (pt_letr (pt_R hq (pt_rf dl0) hc1772) fun a1775 d_a1775 => (pt_ck (pt_in hq (pt_rf d_a1775) rfl) fun hi1776 => (pt_ite (pt_e2 (fun (a b : Int32) => b ≤ a) rfl (pt_Ia hq (pt_rf d_a1775) hi1776.1 rfl)) (fun _ => (pt_letr (pt_R hq (pt_rf dl0) hc1772) fun a1777 d_a1777 => (pt_ck (pt_in hq (pt_rf d_a1777) rfl) fun hi1778 => (pt_ite (pt_e2 (fun (a b : Int32) => a = b) rfl (pt_Ia hq (pt_rf d_a1777) hi1778.1 rfl)) (fun _ => (pt_letr (pt_R hq (pt_rf dl0) hc1772) fun a1779 d_a1779 => (pt_ck (pt_in hq (pt_rf d_a1779) rfl) fun hi1780 => (pt_letr (pt_R hq (pt_rf dl0) hc1772) fun a1781 d_a1781 => (pt_ck (pt_in hq (pt_rf d_a1781) rfl) fun hi1782 => (pt_ck (pt_in hq (pt_rf d_a1779) rfl) fun hi1783 => (pt_letk rfl (pt_sIa hq (pt_rf d_a1779) rfl (pt_e2 (fun (a b : Int32) => a + b) (pt_Ia hq (pt_rf d_a1779) hi1780.1 rfl) (pt_Ia hq (pt_rf d_a1781) hi1782.1 rfl))) fun m1784 n1785 em1786 hq1787 => (zX4_follow_165 hk36  _ _ (pt_rf dl0) _ _ rfl _ _ rfl _ _ rfl _ _ rfl _ _ hq1787)))))))) (fun _ => (zX4_follow_165 hk36  _ _ (pt_rf dl0) _ _ rfl _ _ rfl _ _ rfl _ _ rfl _ _ hq)))))) (fun _ => (zX4_follow_114 hk36  _ _ (pt_rf dl0) _ _ rfl _ _ rfl _ _ rfl _ _ rfl _ _ rfl _ _ rfl _ _ hq)))))))))))
theorem zX4_follow_36 {p : Nat → Nat} {v0 r0 : ml_M} : ∀ (fu : Nat) (l0 l0' : Nat) (hl0 : pt_r p l0 l0') (l1 l1' : Int32) (hl1 : l1 = l1') (l2 l2' : Int32) (hl2 : l2 = l2') (l3 l3' : Int32) (hl3 : l3 = l3') (l4 l4' : Int32) (hl4 : l4 = l4') (m n : ml_M) (hq : pt_Q p v0 r0 m n), pt_T (pt_WM p v0 r0) (fX4_follow_36 fu l0 l1 l2 l3 l4 m) (fX4_follow_36 fu l0' l1' l2' l3' l4' n) := by
  intro fu
  induction fu with
  | zero => intro l0 l0' hl0 l1 l1' hl1 l2 l2' hl2 l3 l3' hl3 l4 l4' hl4 m n hq; exact pt_none
  | succ fu ih =>
  intro l0 l0' hl0 l1 l1' hl1 l2 l2' hl2 l3 l3' hl3 l4 l4' hl4 m n hq
  obtain ⟨rfl, dl0⟩ := hl0
  subst hl1
  subst hl2
  subst hl3
  subst hl4
  have hk36 := ih
  unfold fX4_follow_36
  exact (pt_ck (pt_kc hq (pt_rf dl0)) fun hc1788 => (pt_ite (pt_e2 (fun (a b : Int32) => b ≤ a) rfl (pt_I hq (pt_rf dl0) hc1788)) (fun _ => (pt_retM hq)) (fun _ => (pt_b1 (zX10_has _ _ rfl _ _ rfl _ _ hq) fun r1789 => (pt_ite rfl (fun _ => (pt_b1 (zX4_slot _ _ rfl _ _ rfl _ _ hq) fun r1790 => (pt_letr (pt_R hq (pt_rf dl0) hc1788) fun a1791 d_a1791 => (pt_ck (pt_in hq (pt_rf d_a1791) rfl) fun hi1792 => (pt_b1 (zX10_has _ _ rfl _ _ rfl _ _ hq) fun r1793 => (pt_ite rfl (fun _ => (zX4_follow_91 hk36  _ _ (pt_rf dl0) _ _ rfl _ _ rfl _ _ rfl _ _ rfl _ _ rfl _ _ rfl _ _ (pt_Ia hq (pt_rf d_a1791) hi1792.1 rfl) _ _ hq)) (fun _ => (zX4_follow_91 hk36  _ _ (pt_rf dl0) _ _ rfl _ _ rfl _ _ rfl _ _ rfl _ _ rfl _ _ rfl _ _ (pt_Ia hq (pt_rf d_a1791) hi1792.1 rfl) _ _ hq)))))))) (fun _ => (zX4_follow_165 hk36  _ _ (pt_rf dl0) _ _ rfl _ _ rfl _ _ rfl _ _ rfl _ _ hq)))))))
theorem zX4_follow_33 {p : Nat → Nat} {v0 r0 : ml_M} : ∀ (l0 l0' : Nat) (hl0 : pt_r p l0 l0') (l1 l1' : Int32) (hl1 : l1 = l1') (l2 l2' : Int32) (hl2 : l2 = l2') (l3 l3' : Int32) (hl3 : l3 = l3') (m n : ml_M) (hq : pt_Q p v0 r0 m n), pt_T (pt_WM p v0 r0) (fX4_follow_33 l0 l1 l2 l3 m) (fX4_follow_33 l0' l1' l2' l3' n) := by
  intro l0 l0' hl0 l1 l1' hl1 l2 l2' hl2 l3 l3' hl3 m n hq
  obtain ⟨rfl, dl0⟩ := hl0
  subst hl1
  subst hl2
  subst hl3
  unfold fX4_follow_33
  exact (zX4_follow_36  ml_fu _ _ (pt_rf dl0) _ _ rfl _ _ rfl _ _ rfl _ _ rfl _ _ hq)
theorem zX4_follow {p : Nat → Nat} {v0 r0 : ml_M} : ∀ (l0 l0' : Nat) (hl0 : pt_r p l0 l0') (l1 l1' : Int32) (hl1 : l1 = l1') (l2 l2' : Int32) (hl2 : l2 = l2') (l3 l3' : Int32) (hl3 : l3 = l3') (m n : ml_M) (hq : pt_Q p v0 r0 m n), pt_T (pt_WM p v0 r0) (fX4_follow l0 l1 l2 l3 m) (fX4_follow l0' l1' l2' l3' n) := by
  intro l0 l0' hl0 l1 l1' hl1 l2 l2' hl2 l3 l3' hl3 m n hq
  obtain ⟨rfl, dl0⟩ := hl0
  subst hl1
  subst hl2
  subst hl3
  unfold fX4_follow
  exact (pt_ck (pt_kc hq (pt_rf dl0)) fun hc1794 => (pt_letr (pt_R hq (pt_rf dl0) hc1794) fun a1795 d_a1795 => (pt_ck (pt_in hq (pt_rf d_a1795) rfl) fun hi1796 => (pt_letk rfl (pt_sIa hq (pt_rf d_a1795) rfl rfl) fun m1797 n1798 em1799 hq1800 => (pt_letr (pt_R hq1800 (pt_rf dl0) (ml_kk em1799 hc1794)) fun a1801 d_a1801 => (pt_ck (pt_in hq1800 (pt_rf d_a1801) rfl) fun hi1802 => (pt_letk rfl (pt_sIa hq1800 (pt_rf d_a1801) rfl rfl) fun m1803 n1804 em1805 hq1806 => (pt_ite (pt_e2 (fun (a b : Int32) => a = b) rfl (pt_e2 (fun (a b : Int32) => a - b) (pt_e2 (fun (a b : Int32) => a <<< (b &&& 31)) rfl (pt_I hq1806 (pt_rf dl0) (ml_kk em1805 (ml_kk em1799 hc1794)))) rfl)) (fun _ => (pt_letr (pt_R hq1806 (pt_rf dl0) (ml_kk em1805 (ml_kk em1799 hc1794))) fun a1807 d_a1807 => (pt_ck (pt_in hq1806 (pt_rf d_a1807) rfl) fun hi1808 => (pt_letk rfl (pt_sIa hq1806 (pt_rf d_a1807) rfl rfl) fun m1809 n1810 em1811 hq1812 => (zX4_follow_33   _ _ (pt_rf dl0) _ _ rfl _ _ rfl _ _ rfl _ _ hq1812))))) (fun _ => (zX4_follow_33   _ _ (pt_rf dl0) _ _ rfl _ _ rfl _ _ rfl _ _ hq1806))))))))))
theorem zX4_nextOf_71 {p : Nat → Nat} {v0 r0 : ml_M} {k3 k3' : Nat → Int32 → Int32 → Int32 → Int32 → ml_M → Option Int32} (hk3 : ∀ (l0 l0' : Nat) (hl0 : pt_r p l0 l0') (l1 l1' : Int32) (hl1 : l1 = l1') (l2 l2' : Int32) (hl2 : l2 = l2') (l3 l3' : Int32) (hl3 : l3 = l3') (l4 l4' : Int32) (hl4 : l4 = l4') (m n : ml_M) (hq : pt_Q p v0 r0 m n), pt_T pt_Wv (k3 l0 l1 l2 l3 l4 m) (k3' l0' l1' l2' l3' l4' n)) : ∀ (l0 l0' : Nat) (hl0 : pt_r p l0 l0') (l1 l1' : Int32) (hl1 : l1 = l1') (l2 l2' : Int32) (hl2 : l2 = l2') (l3 l3' : Int32) (hl3 : l3 = l3') (l4 l4' : Int32) (hl4 : l4 = l4') (m n : ml_M) (hq : pt_Q p v0 r0 m n), pt_T pt_Wv (fX4_nextOf_71 k3 l0 l1 l2 l3 l4 m) (fX4_nextOf_71 k3' l0' l1' l2' l3' l4' n) := by
  intro l0 l0' hl0 l1 l1' hl1 l2 l2' hl2 l3 l3' hl3 l4 l4' hl4 m n hq
  obtain ⟨rfl, dl0⟩ := hl0
  subst hl1
  subst hl2
  subst hl3
  subst hl4
  unfold fX4_nextOf_71
  exact (hk3 _ _ (pt_rf dl0) _ _ rfl _ _ rfl _ _ rfl _ _ rfl _ _ hq)
theorem zX4_nextOf_54 {p : Nat → Nat} {v0 r0 : ml_M} {k3 k3' : Nat → Int32 → Int32 → Int32 → Int32 → ml_M → Option Int32} (hk3 : ∀ (l0 l0' : Nat) (hl0 : pt_r p l0 l0') (l1 l1' : Int32) (hl1 : l1 = l1') (l2 l2' : Int32) (hl2 : l2 = l2') (l3 l3' : Int32) (hl3 : l3 = l3') (l4 l4' : Int32) (hl4 : l4 = l4') (m n : ml_M) (hq : pt_Q p v0 r0 m n), pt_T pt_Wv (k3 l0 l1 l2 l3 l4 m) (k3' l0' l1' l2' l3' l4' n)) : ∀ (l0 l0' : Nat) (hl0 : pt_r p l0 l0') (l1 l1' : Int32) (hl1 : l1 = l1') (l2 l2' : Int32) (hl2 : l2 = l2') (l3 l3' : Int32) (hl3 : l3 = l3') (l4 l4' : Int32) (hl4 : l4 = l4') (t0 t0' : Int32) (ht0 : t0 = t0') (t1 t1' : Int32) (ht1 : t1 = t1') (m n : ml_M) (hq : pt_Q p v0 r0 m n), pt_T pt_Wv (fX4_nextOf_54 k3 l0 l1 l2 l3 l4 t0 t1 m) (fX4_nextOf_54 k3' l0' l1' l2' l3' l4' t0' t1' n) := by
  intro l0 l0' hl0 l1 l1' hl1 l2 l2' hl2 l3 l3' hl3 l4 l4' hl4 t0 t0' ht0 t1 t1' ht1 m n hq
  obtain ⟨rfl, dl0⟩ := hl0
  subst hl1
  subst hl2
  subst hl3
  subst hl4
  subst ht0
  subst ht1
  unfold fX4_nextOf_54
  exact (pt_leti rfl fun x1813 => (pt_ck (pt_kc hq (pt_rf dl0)) fun hc1814 => (pt_letr (pt_R hq (pt_rf dl0) hc1814) fun a1815 d_a1815 => (pt_ck (pt_in hq (pt_rf d_a1815) rfl) fun hi1816 => (pt_ite (pt_e2 (fun (a b : Int32) => a = b) rfl (pt_Ia hq (pt_rf d_a1815) hi1816.1 rfl)) (fun _ => (pt_rtv rfl)) (fun _ => (zX4_nextOf_71 hk3  _ _ (pt_rf dl0) _ _ rfl _ _ rfl _ _ rfl _ _ rfl _ _ hq)))))))
theorem zX4_nextOf_3 {p : Nat → Nat} {v0 r0 : ml_M} : ∀ (fu : Nat) (l0 l0' : Nat) (hl0 : pt_r p l0 l0') (l1 l1' : Int32) (hl1 : l1 = l1') (l2 l2' : Int32) (hl2 : l2 = l2') (l3 l3' : Int32) (hl3 : l3 = l3') (l4 l4' : Int32) (hl4 : l4 = l4') (m n : ml_M) (hq : pt_Q p v0 r0 m n), pt_T pt_Wv (fX4_nextOf_3 fu l0 l1 l2 l3 l4 m) (fX4_nextOf_3 fu l0' l1' l2' l3' l4' n) := by
  intro fu
  induction fu with
  | zero => intro l0 l0' hl0 l1 l1' hl1 l2 l2' hl2 l3 l3' hl3 l4 l4' hl4 m n hq; exact pt_none
  | succ fu ih =>
  intro l0 l0' hl0 l1 l1' hl1 l2 l2' hl2 l3 l3' hl3 l4 l4' hl4 m n hq
  obtain ⟨rfl, dl0⟩ := hl0
  subst hl1
  subst hl2
  subst hl3
  subst hl4
  have hk3 := ih
  unfold fX4_nextOf_3
  exact (pt_ck (pt_kc hq (pt_rf dl0)) fun hc1817 => (pt_ite (pt_e2 (fun (a b : Int32) => b ≤ a) rfl (pt_I hq (pt_rf dl0) hc1817)) (fun _ => (pt_rtv rfl)) (fun _ => (pt_b1 (zX10_has _ _ rfl _ _ rfl _ _ hq) fun r1818 => (pt_ite rfl (fun _ => (pt_letr (pt_R hq (pt_rf dl0) hc1817) fun a1819 d_a1819 => (pt_b1 (zX4_slot _ _ rfl _ _ rfl _ _ hq) fun r1820 => (pt_ck (pt_in hq (pt_rf d_a1819) rfl) fun hi1821 => (pt_b1 (zX10_has _ _ rfl _ _ rfl _ _ hq) fun r1822 => (pt_ite rfl (fun _ => (zX4_nextOf_54 hk3  _ _ (pt_rf dl0) _ _ rfl _ _ rfl _ _ rfl _ _ rfl _ _ rfl _ _ (pt_Ia hq (pt_rf d_a1819) hi1821.1 rfl) _ _ hq)) (fun _ => (zX4_nextOf_54 hk3  _ _ (pt_rf dl0) _ _ rfl _ _ rfl _ _ rfl _ _ rfl _ _ rfl _ _ (pt_Ia hq (pt_rf d_a1819) hi1821.1 rfl) _ _ hq)))))))) (fun _ => (zX4_nextOf_71 hk3  _ _ (pt_rf dl0) _ _ rfl _ _ rfl _ _ rfl _ _ rfl _ _ hq)))))))
theorem zX4_nextOf {p : Nat → Nat} {v0 r0 : ml_M} : ∀ (l0 l0' : Nat) (hl0 : pt_r p l0 l0') (l1 l1' : Int32) (hl1 : l1 = l1') (l2 l2' : Int32) (hl2 : l2 = l2') (l3 l3' : Int32) (hl3 : l3 = l3') (m n : ml_M) (hq : pt_Q p v0 r0 m n), pt_T pt_Wv (fX4_nextOf l0 l1 l2 l3 m) (fX4_nextOf l0' l1' l2' l3' n) := by
  intro l0 l0' hl0 l1 l1' hl1 l2 l2' hl2 l3 l3' hl3 m n hq
  obtain ⟨rfl, dl0⟩ := hl0
  subst hl1
  subst hl2
  subst hl3
  unfold fX4_nextOf
  exact (zX4_nextOf_3  ml_fu _ _ (pt_rf dl0) _ _ rfl _ _ rfl _ _ rfl _ _ rfl _ _ hq)
theorem zX4_findFirst_13 {p : Nat → Nat} {v0 r0 : ml_M} : ∀ (fu : Nat) (l0 l0' : Nat) (hl0 : pt_r p l0 l0') (l1 l1' : Int32) (hl1 : l1 = l1') (l2 l2' : Int32) (hl2 : l2 = l2') (l3 l3' : Int32) (hl3 : l3 = l3') (l4 l4' : Int32) (hl4 : l4 = l4') (m n : ml_M) (hq : pt_Q p v0 r0 m n), pt_T (pt_WM p v0 r0) (fX4_findFirst_13 fu l0 l1 l2 l3 l4 m) (fX4_findFirst_13 fu l0' l1' l2' l3' l4' n) := by
  intro fu
  induction fu with
  | zero => intro l0 l0' hl0 l1 l1' hl1 l2 l2' hl2 l3 l3' hl3 l4 l4' hl4 m n hq; exact pt_none
  | succ fu ih =>
  intro l0 l0' hl0 l1 l1' hl1 l2 l2' hl2 l3 l3' hl3 l4 l4' hl4 m n hq
  obtain ⟨rfl, dl0⟩ := hl0
  subst hl1
  subst hl2
  subst hl3
  subst hl4
  have hk13 := ih
  unfold fX4_findFirst_13
  exact (pt_ck (pt_kc hq (pt_rf dl0)) fun hc1823 => (pt_ite (pt_e2 (fun (a b : Int32) => b ≤ a) rfl (pt_I hq (pt_rf dl0) hc1823)) (fun _ => (pt_retM hq)) (fun _ => (pt_b1 (zX4_nextOf _ _ (pt_rf dl0) _ _ rfl _ _ rfl _ _ rfl _ _ hq) fun r1824 => (pt_letr (pt_R hq (pt_rf dl0) hc1823) fun a1825 d_a1825 => (pt_ck (pt_in hq (pt_rf d_a1825) rfl) fun hi1826 => (pt_letk rfl (pt_sIa hq (pt_rf d_a1825) rfl rfl) fun m1827 n1828 em1829 hq1830 => (pt_leti rfl fun x1831 => (pt_b1 (zX4_slot _ _ rfl _ _ rfl _ _ hq1830) fun r1832 => (pt_letr (pt_R hq1830 (pt_rf dl0) (ml_kk em1829 hc1823)) fun a1833 d_a1833 => (pt_ck (pt_in hq1830 (pt_rf d_a1833) rfl) fun hi1834 => (pt_leti (pt_Ia hq1830 (pt_rf d_a1833) hi1834.1 rfl) fun x1835 => (hk13 _ _ (pt_rf dl0) _ _ rfl _ _ rfl _ _ rfl _ _ rfl _ _ hq1830)))))))))))))
theorem zX4_findFirst {p : Nat → Nat} {v0 r0 : ml_M} : ∀ (l0 l0' : Nat) (hl0 : pt_r p l0 l0') (m n : ml_M) (hq : pt_Q p v0 r0 m n), pt_T (pt_WM p v0 r0) (fX4_findFirst l0 m) (fX4_findFirst l0' n) := by
  intro l0 l0' hl0 m n hq
  obtain ⟨rfl, dl0⟩ := hl0
  unfold fX4_findFirst
  exact (pt_b1 (zX4_slot _ _ rfl _ _ rfl _ _ hq) fun r1836 => (zX4_findFirst_13  ml_fu _ _ (pt_rf dl0) _ _ rfl _ _ rfl _ _ rfl _ _ rfl _ _ hq))
theorem zX4_gather_66 {p : Nat → Nat} {v0 r0 : ml_M} {k7 k7' : Nat → Nat → Int32 → ml_M → Option ml_M} (hk7 : ∀ (l0 l0' : Nat) (hl0 : pt_r p l0 l0') (l1 l1' : Nat) (hl1 : pt_r p l1 l1') (l3 l3' : Int32) (hl3 : l3 = l3') (m n : ml_M) (hq : pt_Q p v0 r0 m n), pt_T (pt_WM p v0 r0) (k7 l0 l1 l3 m) (k7' l0' l1' l3' n)) {k25 k25' : Nat → Nat → Int32 → Int32 → ml_M → Option ml_M} (hk25 : ∀ (l0 l0' : Nat) (hl0 : pt_r p l0 l0') (l1 l1' : Nat) (hl1 : pt_r p l1 l1') (l3 l3' : Int32) (hl3 : l3 = l3') (l4 l4' : Int32) (hl4 : l4 = l4') (m n : ml_M) (hq : pt_Q p v0 r0 m n), pt_T (pt_WM p v0 r0) (k25 l0 l1 l3 l4 m) (k25' l0' l1' l3' l4' n)) : ∀ (l0 l0' : Nat) (hl0 : pt_r p l0 l0') (l1 l1' : Nat) (hl1 : pt_r p l1 l1') (l3 l3' : Int32) (hl3 : l3 = l3') (l4 l4' : Int32) (hl4 : l4 = l4') (m n : ml_M) (hq : pt_Q p v0 r0 m n), pt_T (pt_WM p v0 r0) (fX4_gather_66 k7 k25 l0 l1 l3 l4 m) (fX4_gather_66 k7' k25' l0' l1' l3' l4' n) := by
  intro l0 l0' hl0 l1 l1' hl1 l3 l3' hl3 l4 l4' hl4 m n hq
  obtain ⟨rfl, dl0⟩ := hl0
  obtain ⟨rfl, dl1⟩ := hl1
  subst hl3
  subst hl4
  unfold fX4_gather_66
  exact (hk25 _ _ (pt_rf dl0) _ _ (pt_rf dl1) _ _ rfl _ _ rfl _ _ hq)
theorem zX4_gather_72 {p : Nat → Nat} {v0 r0 : ml_M} {k7 k7' : Nat → Nat → Int32 → ml_M → Option ml_M} (hk7 : ∀ (l0 l0' : Nat) (hl0 : pt_r p l0 l0') (l1 l1' : Nat) (hl1 : pt_r p l1 l1') (l3 l3' : Int32) (hl3 : l3 = l3') (m n : ml_M) (hq : pt_Q p v0 r0 m n), pt_T (pt_WM p v0 r0) (k7 l0 l1 l3 m) (k7' l0' l1' l3' n)) : ∀ (l0 l0' : Nat) (hl0 : pt_r p l0 l0') (l1 l1' : Nat) (hl1 : pt_r p l1 l1') (l3 l3' : Int32) (hl3 : l3 = l3') (m n : ml_M) (hq : pt_Q p v0 r0 m n), pt_T (pt_WM p v0 r0) (fX4_gather_72 k7 l0 l1 l3 m) (fX4_gather_72 k7' l0' l1' l3' n) := by
  intro l0 l0' hl0 l1 l1' hl1 l3 l3' hl3 m n hq
  obtain ⟨rfl, dl0⟩ := hl0
  obtain ⟨rfl, dl1⟩ := hl1
  subst hl3
  unfold fX4_gather_72
  exact (hk7 _ _ (pt_rf dl0) _ _ (pt_rf dl1) _ _ rfl _ _ hq)
theorem zX4_gather_25 {p : Nat → Nat} {v0 r0 : ml_M} {k7 k7' : Nat → Nat → Int32 → ml_M → Option ml_M} (hk7 : ∀ (l0 l0' : Nat) (hl0 : pt_r p l0 l0') (l1 l1' : Nat) (hl1 : pt_r p l1 l1') (l3 l3' : Int32) (hl3 : l3 = l3') (m n : ml_M) (hq : pt_Q p v0 r0 m n), pt_T (pt_WM p v0 r0) (k7 l0 l1 l3 m) (k7' l0' l1' l3' n)) : ∀ (fu : Nat) (l0 l0' : Nat) (hl0 : pt_r p l0 l0') (l1 l1' : Nat) (hl1 : pt_r p l1 l1') (l3 l3' : Int32) (hl3 : l3 = l3') (l4 l4' : Int32) (hl4 : l4 = l4') (m n : ml_M) (hq : pt_Q p v0 r0 m n), pt_T (pt_WM p v0 r0) (fX4_gather_25 k7 fu l0 l1 l3 l4 m) (fX4_gather_25 k7' fu l0' l1' l3' l4' n) := by
  intro fu
  induction fu with
  | zero => intro l0 l0' hl0 l1 l1' hl1 l3 l3' hl3 l4 l4' hl4 m n hq; exact pt_none
  | succ fu ih =>
  intro l0 l0' hl0 l1 l1' hl1 l3 l3' hl3 l4 l4' hl4 m n hq
  obtain ⟨rfl, dl0⟩ := hl0
  obtain ⟨rfl, dl1⟩ := hl1
  subst hl3
  subst hl4
  have hk25 := ih
  unfold fX4_gather_25
  exact (pt_ck (pt_kc hq (pt_rf dl0)) fun hc1837 => (pt_ite (pt_e2 (fun (a b : Int32) => b ≤ a) rfl (pt_I hq (pt_rf dl0) hc1837)) (fun _ => (zX4_gather_72 hk7  _ _ (pt_rf dl0) _ _ (pt_rf dl1) _ _ rfl _ _ hq)) (fun _ => (pt_ite rfl (fun _ => (zX4_gather_66 hk7 hk25  _ _ (pt_rf dl0) _ _ (pt_rf dl1) _ _ rfl _ _ rfl _ _ hq)) (fun _ => (pt_ck (pt_in hq (pt_rf dl1) rfl) fun hi1838 => pt_letr (pt_Ra hq (pt_rf dl1) hi1838.1 rfl) fun a1839 d_a1839 => (pt_ck (pt_in hq (pt_rf dl1) rfl) fun hi1840 => pt_letr (pt_Ra hq (pt_rf dl1) hi1840.1 rfl) fun a1841 d_a1841 => (pt_ck (pt_kc hq (pt_rf d_a1839)) fun hc1842 => (pt_b1 (zX0_meets _ _ (pt_rf d_a1839) _ _ (pt_rf d_a1841) _ _ hq) fun r1843 => (pt_ite rfl (fun _ => (zX4_gather_66 hk7 hk25  _ _ (pt_rf dl0) _ _ (pt_rf dl1) _ _ rfl _ _ rfl _ _ hq)) (fun _ => (pt_letr (pt_R hq (pt_rf dl0) hc1837) fun a1844 d_a1844 => (pt_ck (pt_in hq (pt_rf d_a1844) rfl) fun hi1845 => (pt_ck (pt_in hq (pt_rf d_a1844) rfl) fun hi1846 => (pt_letk rfl (pt_sIa hq (pt_rf d_a1844) rfl (pt_e2 (fun (a b : Int32) => a ||| b) (pt_Ia hq (pt_rf d_a1844) hi1845.1 rfl) rfl)) fun m1847 n1848 em1849 hq1850 => (zX4_gather_66 hk7 hk25  _ _ (pt_rf dl0) _ _ (pt_rf dl1) _ _ rfl _ _ rfl _ _ hq1850))))))))))))))))
theorem zX4_gather_130 {p : Nat → Nat} {v0 r0 : ml_M} {k87 k87' : Nat → Int32 → ml_M → Option ml_M} (hk87 : ∀ (l0 l0' : Nat) (hl0 : pt_r p l0 l0') (l3 l3' : Int32) (hl3 : l3 = l3') (m n : ml_M) (hq : pt_Q p v0 r0 m n), pt_T (pt_WM p v0 r0) (k87 l0 l3 m) (k87' l0' l3' n)) {k94 k94' : Nat → Int32 → Int32 → ml_M → Option ml_M} (hk94 : ∀ (l0 l0' : Nat) (hl0 : pt_r p l0 l0') (l3 l3' : Int32) (hl3 : l3 = l3') (l4 l4' : Int32) (hl4 : l4 = l4') (m n : ml_M) (hq : pt_Q p v0 r0 m n), pt_T (pt_WM p v0 r0) (k94 l0 l3 l4 m) (k94' l0' l3' l4' n)) : ∀ (l0 l0' : Nat) (hl0 : pt_r p l0 l0') (l3 l3' : Int32) (hl3 : l3 = l3') (l4 l4' : Int32) (hl4 : l4 = l4') (m n : ml_M) (hq : pt_Q p v0 r0 m n), pt_T (pt_WM p v0 r0) (fX4_gather_130 k87 k94 l0 l3 l4 m) (fX4_gather_130 k87' k94' l0' l3' l4' n) := by
  intro l0 l0' hl0 l3 l3' hl3 l4 l4' hl4 m n hq
  obtain ⟨rfl, dl0⟩ := hl0
  subst hl3
  subst hl4
  unfold fX4_gather_130
  exact (hk94 _ _ (pt_rf dl0) _ _ rfl _ _ rfl _ _ hq)
theorem zX4_gather_136 {p : Nat → Nat} {v0 r0 : ml_M} {k87 k87' : Nat → Int32 → ml_M → Option ml_M} (hk87 : ∀ (l0 l0' : Nat) (hl0 : pt_r p l0 l0') (l3 l3' : Int32) (hl3 : l3 = l3') (m n : ml_M) (hq : pt_Q p v0 r0 m n), pt_T (pt_WM p v0 r0) (k87 l0 l3 m) (k87' l0' l3' n)) : ∀ (l0 l0' : Nat) (hl0 : pt_r p l0 l0') (l3 l3' : Int32) (hl3 : l3 = l3') (m n : ml_M) (hq : pt_Q p v0 r0 m n), pt_T (pt_WM p v0 r0) (fX4_gather_136 k87 l0 l3 m) (fX4_gather_136 k87' l0' l3' n) := by
  intro l0 l0' hl0 l3 l3' hl3 m n hq
  obtain ⟨rfl, dl0⟩ := hl0
  subst hl3
  unfold fX4_gather_136
  exact (hk87 _ _ (pt_rf dl0) _ _ rfl _ _ hq)
theorem zX4_gather_94 {p : Nat → Nat} {v0 r0 : ml_M} {k87 k87' : Nat → Int32 → ml_M → Option ml_M} (hk87 : ∀ (l0 l0' : Nat) (hl0 : pt_r p l0 l0') (l3 l3' : Int32) (hl3 : l3 = l3') (m n : ml_M) (hq : pt_Q p v0 r0 m n), pt_T (pt_WM p v0 r0) (k87 l0 l3 m) (k87' l0' l3' n)) : ∀ (fu : Nat) (l0 l0' : Nat) (hl0 : pt_r p l0 l0') (l3 l3' : Int32) (hl3 : l3 = l3') (l4 l4' : Int32) (hl4 : l4 = l4') (m n : ml_M) (hq : pt_Q p v0 r0 m n), pt_T (pt_WM p v0 r0) (fX4_gather_94 k87 fu l0 l3 l4 m) (fX4_gather_94 k87' fu l0' l3' l4' n) := by
  intro fu
  induction fu with
  | zero => intro l0 l0' hl0 l3 l3' hl3 l4 l4' hl4 m n hq; exact pt_none
  | succ fu ih =>
  intro l0 l0' hl0 l3 l3' hl3 l4 l4' hl4 m n hq
  obtain ⟨rfl, dl0⟩ := hl0
  subst hl3
  subst hl4
  have hk94 := ih
  unfold fX4_gather_94
  exact (pt_ck (pt_kc hq (pt_rf dl0)) fun hc1851 => (pt_ite (pt_e2 (fun (a b : Int32) => b ≤ a) rfl (pt_I hq (pt_rf dl0) hc1851)) (fun _ => (zX4_gather_136 hk87  _ _ (pt_rf dl0) _ _ rfl _ _ hq)) (fun _ => (pt_b1 (zX10_has _ _ rfl _ _ rfl _ _ hq) fun r1852 => (pt_ite rfl (fun _ => (zX4_gather_130 hk87 hk94  _ _ (pt_rf dl0) _ _ rfl _ _ rfl _ _ hq)) (fun _ => (pt_b1 (zX4_slot _ _ rfl _ _ rfl _ _ hq) fun r1853 => (pt_letr (pt_R hq (pt_rf dl0) hc1851) fun a1854 d_a1854 => (pt_ck (pt_in hq (pt_rf d_a1854) rfl) fun hi1855 => (pt_b1m (zX4_follow _ _ (pt_rf dl0) _ _ rfl _ _ rfl _ _ (pt_Ia hq (pt_rf d_a1854) hi1855.1 rfl) _ _ hq) fun m1856 n1857 hq1858 => (zX4_gather_130 hk87 hk94  _ _ (pt_rf dl0) _ _ rfl _ _ rfl _ _ hq1858)))))))))))
theorem zX4_gather_142 {p : Nat → Nat} {v0 r0 : ml_M} : ∀ (l0 l0' : Nat) (hl0 : pt_r p l0 l0') (m n : ml_M) (hq : pt_Q p v0 r0 m n), pt_T (pt_WM p v0 r0) (fX4_gather_142 l0 m) (fX4_gather_142 l0' n) := by
  intro l0 l0' hl0 m n hq
  obtain ⟨rfl, dl0⟩ := hl0
  unfold fX4_gather_142
  exact (pt_b1 (zX4_slot _ _ rfl _ _ rfl _ _ hq) fun r1859 => (pt_ck (pt_kc hq (pt_rf dl0)) fun hc1860 => (pt_b1m (zX4_follow _ _ (pt_rf dl0) _ _ rfl _ _ rfl _ _ rfl _ _ hq) fun m1861 n1862 hq1863 => (pt_ck (pt_kc hq1863 (pt_rf dl0)) fun hc1864 => (pt_letr (pt_R hq1863 (pt_rf dl0) hc1864) fun a1865 d_a1865 => (pt_b1 (zX4_slot _ _ rfl _ _ rfl _ _ hq1863) fun r1866 => (pt_ck (pt_in hq1863 (pt_rf d_a1865) rfl) fun hi1867 => (pt_letk rfl (pt_sI hq1863 (pt_rf dl0) (pt_Ia hq1863 (pt_rf d_a1865) hi1867.1 rfl)) fun m1868 n1869 em1870 hq1871 => (pt_letr (pt_R hq1871 (pt_rf dl0) (ml_kk em1870 hc1864)) fun a1872 d_a1872 => (pt_b1 (zX4_slot _ _ rfl _ _ rfl _ _ hq1871) fun r1873 => (pt_ck (pt_in hq1871 (pt_rf d_a1872) rfl) fun hi1874 => (pt_letk rfl (pt_sI hq1871 (pt_rf dl0) (pt_Ia hq1871 (pt_rf d_a1872) hi1874.1 rfl)) fun m1875 n1876 em1877 hq1878 => (pt_b1m (zX4_findFirst _ _ (pt_rf dl0) _ _ hq1878) fun m1879 n1880 hq1881 => (pt_ck (pt_kc hq1881 (pt_rf dl0)) fun hc1882 => (pt_letk rfl (pt_sI hq1881 (pt_rf dl0) rfl) fun m1883 n1884 em1885 hq1886 => (pt_retM hq1886))))))))))))))))
theorem zX4_gather_87 {p : Nat → Nat} {v0 r0 : ml_M} : ∀ (fu : Nat) (l0 l0' : Nat) (hl0 : pt_r p l0 l0') (l3 l3' : Int32) (hl3 : l3 = l3') (m n : ml_M) (hq : pt_Q p v0 r0 m n), pt_T (pt_WM p v0 r0) (fX4_gather_87 fu l0 l3 m) (fX4_gather_87 fu l0' l3' n) := by
  intro fu
  induction fu with
  | zero => intro l0 l0' hl0 l3 l3' hl3 m n hq; exact pt_none
  | succ fu ih =>
  intro l0 l0' hl0 l3 l3' hl3 m n hq
  obtain ⟨rfl, dl0⟩ := hl0
  subst hl3
  have hk87 := ih
  unfold fX4_gather_87
  exact (pt_ite rfl (fun _ => (zX4_gather_142   _ _ (pt_rf dl0) _ _ hq)) (fun _ => (zX4_gather_94 hk87 ml_fu _ _ (pt_rf dl0) _ _ rfl _ _ rfl _ _ hq)))
theorem zX4_gather_78 {p : Nat → Nat} {v0 r0 : ml_M} : ∀ (l0 l0' : Nat) (hl0 : pt_r p l0 l0') (m n : ml_M) (hq : pt_Q p v0 r0 m n), pt_T (pt_WM p v0 r0) (fX4_gather_78 l0 m) (fX4_gather_78 l0' n) := by
  intro l0 l0' hl0 m n hq
  obtain ⟨rfl, dl0⟩ := hl0
  unfold fX4_gather_78
  exact (pt_ck (pt_kc hq (pt_rf dl0)) fun hc1887 => (pt_leti (pt_e2 (fun (a b : Int32) => a - b) (pt_e2 (fun (a b : Int32) => a <<< (b &&& 31)) rfl (pt_I hq (pt_rf dl0) hc1887)) rfl) fun x1888 => (zX4_gather_87  ml_fu _ _ (pt_rf dl0) _ _ rfl _ _ hq)))
theorem zX4_gather_7 {p : Nat → Nat} {v0 r0 : ml_M} : ∀ (fu : Nat) (l0 l0' : Nat) (hl0 : pt_r p l0 l0') (l1 l1' : Nat) (hl1 : pt_r p l1 l1') (l3 l3' : Int32) (hl3 : l3 = l3') (m n : ml_M) (hq : pt_Q p v0 r0 m n), pt_T (pt_WM p v0 r0) (fX4_gather_7 fu l0 l1 l3 m) (fX4_gather_7 fu l0' l1' l3' n) := by
  intro fu
  induction fu with
  | zero => intro l0 l0' hl0 l1 l1' hl1 l3 l3' hl3 m n hq; exact pt_none
  | succ fu ih =>
  intro l0 l0' hl0 l1 l1' hl1 l3 l3' hl3 m n hq
  obtain ⟨rfl, dl0⟩ := hl0
  obtain ⟨rfl, dl1⟩ := hl1
  subst hl3
  have hk7 := ih
  unfold fX4_gather_7
  exact (pt_ck (pt_kc hq (pt_rf dl0)) fun hc1889 => (pt_ite (pt_e2 (fun (a b : Int32) => b ≤ a) rfl (pt_I hq (pt_rf dl0) hc1889)) (fun _ => (zX4_gather_78   _ _ (pt_rf dl0) _ _ hq)) (fun _ => (pt_letr (pt_R hq (pt_rf dl0) hc1889) fun a1890 d_a1890 => (pt_ck (pt_in hq (pt_rf d_a1890) rfl) fun hi1891 => (pt_letk rfl (pt_sIa hq (pt_rf d_a1890) rfl rfl) fun m1892 n1893 em1894 hq1895 => (zX4_gather_25 hk7 ml_fu _ _ (pt_rf dl0) _ _ (pt_rf dl1) _ _ rfl _ _ rfl _ _ hq1895)))))))
theorem zX4_gather {p : Nat → Nat} {v0 r0 : ml_M} : ∀ (l0 l0' : Nat) (hl0 : pt_r p l0 l0') (l1 l1' : Nat) (hl1 : pt_r p l1 l1') (l2 l2' : Int32) (hl2 : l2 = l2') (m n : ml_M) (hq : pt_Q p v0 r0 m n), pt_T (pt_WM p v0 r0) (fX4_gather l0 l1 l2 m) (fX4_gather l0' l1' l2' n) := by
  intro l0 l0' hl0 l1 l1' hl1 l2 l2' hl2 m n hq
  obtain ⟨rfl, dl0⟩ := hl0
  obtain ⟨rfl, dl1⟩ := hl1
  subst hl2
  unfold fX4_gather
  exact (pt_ck (pt_kc hq (pt_rf dl0)) fun hc1896 => (pt_letk rfl (pt_sI hq (pt_rf dl0) rfl) fun m1897 n1898 em1899 hq1900 => (zX4_gather_7  ml_fu _ _ (pt_rf dl0) _ _ (pt_rf dl1) _ _ rfl _ _ hq1900)))
theorem zX10_refreshLays {p : Nat → Nat} {v0 r0 : ml_M} : ∀ (l0 l0' : Nat) (hl0 : pt_r p l0 l0') (m n : ml_M) (hq : pt_Q p v0 r0 m n), pt_T (pt_WM p v0 r0) (fX10_refreshLays l0 m) (fX10_refreshLays l0' n) := by
  intro l0 l0' hl0 m n hq
  obtain ⟨rfl, dl0⟩ := hl0
  unfold fX10_refreshLays
  exact (pt_ck (pt_kc hq (pt_rf dl0)) fun hc1901 => (pt_letr (pt_R hq (pt_rf dl0) hc1901) fun a1902 d_a1902 => (pt_ck (pt_kc hq (pt_rf d_a1902)) fun hc1903 => (pt_ite (pt_e1 (fun (a : Int32) => a = 0) (pt_I hq (pt_rf d_a1902) hc1903)) (fun _ => (pt_retM hq)) (fun _ => (pt_letr (pt_R hq (pt_rf dl0) hc1901) fun a1904 d_a1904 => (pt_letr (pt_R hq (pt_rf dl0) hc1901) fun a1905 d_a1905 => (pt_ck (pt_kc hq (pt_rf d_a1904)) fun hc1906 => (pt_b1m (zX4_gather _ _ (pt_rf d_a1904) _ _ (pt_rf d_a1905) _ _ (pt_I hq (pt_rf dl0) hc1901) _ _ hq) fun m1907 n1908 hq1909 => (pt_retM hq1909))))))))))
theorem zX10_sheets {p : Nat → Nat} {v0 r0 : ml_M} : ∀ (l0 l0' : Nat) (hl0 : pt_r p l0 l0') (l1 l1' : Int32) (hl1 : l1 = l1') (m n : ml_M) (hq : pt_Q p v0 r0 m n), pt_T (pt_WV p v0 r0) (fX10_sheets l0 l1 m) (fX10_sheets l0' l1' n) := by
  intro l0 l0' hl0 l1 l1' hl1 m n hq
  obtain ⟨rfl, dl0⟩ := hl0
  subst hl1
  unfold fX10_sheets
  exact (pt_b1 (zX10_isRow _ _ rfl _ _ hq) fun r1910 => (pt_ite rfl (fun _ => (pt_retV rfl hq)) (fun _ => (pt_ck (pt_kc hq (pt_rf dl0)) fun hc1911 => (pt_b1m (zX10_refreshLays _ _ (pt_rf dl0) _ _ hq) fun m1912 n1913 hq1914 => (pt_ck (pt_kc hq1914 (pt_rf dl0)) fun hc1915 => (pt_letr (pt_R hq1914 (pt_rf dl0) hc1915) fun a1916 d_a1916 => (pt_letr (pt_R hq1914 (pt_rf dl0) hc1915) fun a1917 d_a1917 => (pt_ck (pt_kc hq1914 (pt_rf d_a1917)) fun hc1918 => (pt_letr (pt_R hq1914 (pt_rf d_a1917) hc1918) fun a1919 d_a1919 => (pt_b2r (zJ7_copyOf_59c91 _ _ (pt_rf d_a1919) _ _ (pt_I hq1914 (pt_rf dl0) hc1915) _ _ hq1914) fun a1920 m1921 n1922 d_a1920 hq1923 => (pt_ck (pt_kc hq1923 (pt_rf d_a1920)) fun hc1925 => (pt_ck (pt_in hq1923 (pt_rf d_a1916) rfl) fun hi1924 => (pt_letk rfl (pt_sRa hq1923 (pt_rf d_a1916) rfl (pt_rf d_a1920)) fun m1926 n1927 em1928 hq1929 => (pt_ck (pt_kc hq1929 (pt_rf dl0)) fun hc1930 => (pt_letr (pt_R hq1929 (pt_rf dl0) hc1930) fun a1931 d_a1931 => (pt_ck (pt_kc hq1929 (pt_rf d_a1931)) fun hc1932 => (pt_retV (pt_I hq1929 (pt_rf d_a1931) hc1932) hq1929))))))))))))))))))
theorem zX10_laid {p : Nat → Nat} {v0 r0 : ml_M} : ∀ (l0 l0' : Nat) (hl0 : pt_r p l0 l0') (m n : ml_M) (hq : pt_Q p v0 r0 m n), pt_T (pt_WV p v0 r0) (fX10_laid l0 m) (fX10_laid l0' n) := by
  intro l0 l0' hl0 m n hq
  obtain ⟨rfl, dl0⟩ := hl0
  unfold fX10_laid
  exact (pt_ck (pt_kc hq (pt_rf dl0)) fun hc1933 => (pt_b1m (zX10_refreshLays _ _ (pt_rf dl0) _ _ hq) fun m1934 n1935 hq1936 => (pt_ck (pt_kc hq1936 (pt_rf dl0)) fun hc1937 => (pt_letr (pt_R hq1936 (pt_rf dl0) hc1937) fun a1938 d_a1938 => (pt_ck (pt_kc hq1936 (pt_rf d_a1938)) fun hc1939 => (pt_retV (pt_I hq1936 (pt_rf d_a1938) hc1939) hq1936))))))
theorem zX10_joins {p : Nat → Nat} {v0 r0 : ml_M} : ∀ (l0 l0' : Nat) (hl0 : pt_r p l0 l0') (l1 l1' : Int32) (hl1 : l1 = l1') (l2 l2' : Int32) (hl2 : l2 = l2') (m n : ml_M) (hq : pt_Q p v0 r0 m n), pt_T pt_Wv (fX10_joins l0 l1 l2 m) (fX10_joins l0' l1' l2' n) := by
  intro l0 l0' hl0 l1 l1' hl1 l2 l2' hl2 m n hq
  obtain ⟨rfl, dl0⟩ := hl0
  subst hl1
  subst hl2
  unfold fX10_joins
  exact (pt_ck (pt_kc hq (pt_rf dl0)) fun hc1940 => (pt_b1 (zX10_within _ _ rfl _ _ rfl _ _ (pt_e2 (fun (a b : Int32) => a - b) (pt_I hq (pt_rf dl0) hc1940) rfl) _ _ hq) fun r1941 => (pt_ite rfl (fun _ => (pt_rtv rfl)) (fun _ => (pt_b1 (zX10_within _ _ rfl _ _ rfl _ _ (pt_e2 (fun (a b : Int32) => a - b) (pt_I hq (pt_rf dl0) hc1940) rfl) _ _ hq) fun r1942 => (pt_ite rfl (fun _ => (pt_rtv rfl)) (fun _ => (pt_ite rfl (fun _ => (pt_rtv rfl)) (fun _ => (pt_letr (pt_R hq (pt_rf dl0) hc1940) fun a1943 d_a1943 => (pt_ck (pt_in hq (pt_rf d_a1943) rfl) fun hi1944 => pt_letr (pt_Ra hq (pt_rf d_a1943) hi1944.1 rfl) fun a1945 d_a1945 => (pt_letr (pt_R hq (pt_rf dl0) hc1940) fun a1946 d_a1946 => (pt_ck (pt_in hq (pt_rf d_a1946) rfl) fun hi1947 => pt_letr (pt_Ra hq (pt_rf d_a1946) hi1947.1 rfl) fun a1948 d_a1948 => (pt_ck (pt_kc hq (pt_rf d_a1945)) fun hc1949 => (pt_b1 (zX0_meets _ _ (pt_rf d_a1945) _ _ (pt_rf d_a1948) _ _ hq) fun r1950 => (pt_ite rfl (fun _ => (pt_rtv rfl)) (fun _ => (pt_rtv rfl))))))))))))))))))

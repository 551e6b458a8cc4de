/-! printed by wip/p51/emit2.py: the class does the same in memories that hold the same -/
theorem zX3_fewestPeople_68 {p : Nat → Nat} {v0 r0 : ml_M} {k6 k6' : Nat → Int32 → ml_M → Option (Int32 × ml_M)} (hk6 : ∀ (l0 l0' : Nat) (hl0 : pt_r p l0 l0') (l1 l1' : Int32) (hl1 : l1 = l1') (m n : ml_M) (hq : pt_Q p v0 r0 m n) (bl0 : l0 ≤ ml_n m), pt_T (pt_WV p v0 r0) (k6 l0 l1 m) (k6' l0' l1' n)) {k28 k28' : Nat → Int32 → Int32 → ml_M → Option (Int32 × ml_M)} (hk28 : ∀ (l0 l0' : Nat) (hl0 : pt_r p l0 l0') (l1 l1' : Int32) (hl1 : l1 = l1') (l2 l2' : Int32) (hl2 : l2 = l2') (m n : ml_M) (hq : pt_Q p v0 r0 m n) (bl0 : l0 ≤ ml_n m), pt_T (pt_WV p v0 r0) (k28 l0 l1 l2 m) (k28' l0' l1' l2' n)) : ∀ (l0 l0' : Nat) (hl0 : pt_r p l0 l0') (l1 l1' : Int32) (hl1 : l1 = l1') (l2 l2' : Int32) (hl2 : l2 = l2') (m n : ml_M) (hq : pt_Q p v0 r0 m n) (bl0 : l0 ≤ ml_n m), pt_T (pt_WV p v0 r0) (fX3_fewestPeople_68 k6 k28 l0 l1 l2 m) (fX3_fewestPeople_68 k6' k28' l0' l1' l2' n) := by
  intro l0 l0' hl0 l1 l1' hl1 l2 l2' hl2 m n hq bl0
  obtain ⟨rfl, dl0⟩ := hl0
  subst hl1
  subst hl2
  unfold fX3_fewestPeople_68
  exact (pt_leti rfl fun x1623 => (hk28 _ _ (pt_rf dl0) _ _ rfl _ _ rfl _ _ hq bl0))
theorem zX3_fewestPeople_77 {p : Nat → Nat} {v0 r0 : ml_M} {k6 k6' : Nat → Int32 → ml_M → Option (Int32 × ml_M)} (hk6 : ∀ (l0 l0' : Nat) (hl0 : pt_r p l0 l0') (l1 l1' : Int32) (hl1 : l1 = l1') (m n : ml_M) (hq : pt_Q p v0 r0 m n) (bl0 : l0 ≤ ml_n m), pt_T (pt_WV p v0 r0) (k6 l0 l1 m) (k6' l0' l1' n)) : ∀ (l0 l0' : Nat) (hl0 : pt_r p l0 l0') (l1 l1' : Int32) (hl1 : l1 = l1') (m n : ml_M) (hq : pt_Q p v0 r0 m n) (bl0 : l0 ≤ ml_n m), pt_T (pt_WV p v0 r0) (fX3_fewestPeople_77 k6 l0 l1 m) (fX3_fewestPeople_77 k6' l0' l1' n) := by
  intro l0 l0' hl0 l1 l1' hl1 m n hq bl0
  obtain ⟨rfl, dl0⟩ := hl0
  subst hl1
  unfold fX3_fewestPeople_77
  exact (hk6 _ _ (pt_rf dl0) _ _ rfl _ _ hq bl0)
theorem zX3_fewestPeople_28 {p : Nat → Nat} {v0 r0 : ml_M} {k6 k6' : Nat → Int32 → ml_M → Option (Int32 × ml_M)} (hk6 : ∀ (l0 l0' : Nat) (hl0 : pt_r p l0 l0') (l1 l1' : Int32) (hl1 : l1 = l1') (m n : ml_M) (hq : pt_Q p v0 r0 m n) (bl0 : l0 ≤ ml_n m), pt_T (pt_WV p v0 r0) (k6 l0 l1 m) (k6' l0' l1' n)) : ∀ (fu : Nat) (l0 l0' : Nat) (hl0 : pt_r p l0 l0') (l1 l1' : Int32) (hl1 : l1 = l1') (l2 l2' : Int32) (hl2 : l2 = l2') (m n : ml_M) (hq : pt_Q p v0 r0 m n) (bl0 : l0 ≤ ml_n m), pt_T (pt_WV p v0 r0) (fX3_fewestPeople_28 k6 fu l0 l1 l2 m) (fX3_fewestPeople_28 k6' fu l0' l1' l2' n) := by
  intro fu
  induction fu with
  | zero => intro l0 l0' hl0 l1 l1' hl1 l2 l2' hl2 m n hq bl0; exact pt_none
  | succ fu ih =>
  intro l0 l0' hl0 l1 l1' hl1 l2 l2' hl2 m n hq bl0
  obtain ⟨rfl, dl0⟩ := hl0
  subst hl1
  subst hl2
  have hk28 := ih
  unfold fX3_fewestPeople_28
  exact (pt_ite rfl (fun _ => (zX3_fewestPeople_77 hk6  _ _ (pt_rf dl0) _ _ rfl _ _ hq bl0)) (fun _ => (pt_ck (pt_kc hq (pt_rf dl0)) fun hc1624 => (pt_letr (pt_R hq (pt_rf dl0) hc1624) (pt_Rb hq (pt_rf dl0) hc1624) fun a1625 d_a1625 b_a1625 => (pt_ck (pt_in hq (pt_rf d_a1625) rfl) fun hi1626 => (pt_ite (pt_e1 (fun (a : Int32) => a = 0) (pt_Ia hq (pt_rf d_a1625) hi1626.1 rfl)) (fun _ => (zX3_fewestPeople_68 hk6 hk28  _ _ (pt_rf dl0) _ _ rfl _ _ rfl _ _ hq bl0)) (fun _ => (pt_letr (pt_R hq (pt_rf dl0) hc1624) (pt_Rb hq (pt_rf dl0) hc1624) fun a1627 d_a1627 b_a1627 => (pt_letr (pt_R hq (pt_rf dl0) hc1624) (pt_Rb hq (pt_rf dl0) hc1624) fun a1628 d_a1628 b_a1628 => (pt_ck (pt_in hq (pt_rf d_a1628) rfl) fun hi1629 => (pt_letr (pt_R hq (pt_rf dl0) hc1624) (pt_Rb hq (pt_rf dl0) hc1624) fun a1630 d_a1630 b_a1630 => (pt_ck (pt_in hq (pt_rf d_a1630) rfl) fun hi1631 => (pt_ck (pt_in hq (pt_rf d_a1627) rfl) fun hi1632 => (pt_letk rfl (Nat.le_refl _) (pt_sIa hq (pt_rf d_a1627) rfl (pt_e2 (fun (a b : Int32) => if b < a then b else a) (pt_Ia hq (pt_rf d_a1628) hi1629.1 rfl) (pt_e2 (fun (a b : Int32) => a + b) (pt_Ia hq (pt_rf d_a1630) hi1631.1 rfl) rfl))) fun m1633 n1634 em1635 hn1637 hq1636 => (zX3_fewestPeople_68 hk6 hk28  _ _ (pt_rf dl0) _ _ rfl _ _ rfl _ _ hq1636 (Nat.le_trans bl0 hn1637))))))))))))))))
theorem zX3_fewestPeople_83 {p : Nat → Nat} {v0 r0 : ml_M} : ∀ (l0 l0' : Nat) (hl0 : pt_r p l0 l0') (m n : ml_M) (hq : pt_Q p v0 r0 m n) (bl0 : l0 ≤ ml_n m), pt_T (pt_WV p v0 r0) (fX3_fewestPeople_83 l0 m) (fX3_fewestPeople_83 l0' n) := by
  intro l0 l0' hl0 m n hq bl0
  obtain ⟨rfl, dl0⟩ := hl0
  unfold fX3_fewestPeople_83
  exact (pt_ck (pt_kc hq (pt_rf dl0)) fun hc1638 => (pt_letr (pt_R hq (pt_rf dl0) hc1638) (pt_Rb hq (pt_rf dl0) hc1638) fun a1639 d_a1639 b_a1639 => (pt_ck (pt_in hq (pt_rf d_a1639) (pt_e2 (fun (a b : Int32) => a - b) (pt_e2 (fun (a b : Int32) => a <<< (b &&& 31)) rfl (pt_I hq (pt_rf dl0) hc1638)) rfl)) fun hi1640 => (pt_retV (pt_Ia hq (pt_rf d_a1639) hi1640.1 (pt_e2 (fun (a b : Int32) => a - b) (pt_e2 (fun (a b : Int32) => a <<< (b &&& 31)) rfl (pt_I hq (pt_rf dl0) hc1638)) rfl)) hq))))
theorem zX3_fewestPeople_6 {p : Nat → Nat} {v0 r0 : ml_M} : ∀ (fu : Nat) (l0 l0' : Nat) (hl0 : pt_r p l0 l0') (l1 l1' : Int32) (hl1 : l1 = l1') (m n : ml_M) (hq : pt_Q p v0 r0 m n) (bl0 : l0 ≤ ml_n m), pt_T (pt_WV p v0 r0) (fX3_fewestPeople_6 fu l0 l1 m) (fX3_fewestPeople_6 fu l0' l1' n) := by
  intro fu
  induction fu with
  | zero => intro l0 l0' hl0 l1 l1' hl1 m n hq bl0; exact pt_none
  | succ fu ih =>
  intro l0 l0' hl0 l1 l1' hl1 m n hq bl0
  obtain ⟨rfl, dl0⟩ := hl0
  subst hl1
  have hk6 := ih
  unfold fX3_fewestPeople_6
  exact (pt_ck (pt_kc hq (pt_rf dl0)) fun hc1641 => (pt_ite (pt_e2 (fun (a b : Int32) => b ≤ a) rfl (pt_e2 (fun (a b : Int32) => a <<< (b &&& 31)) rfl (pt_I hq (pt_rf dl0) hc1641))) (fun _ => (zX3_fewestPeople_83   _ _ (pt_rf dl0) _ _ hq bl0)) (fun _ => (pt_letr (pt_R hq (pt_rf dl0) hc1641) (pt_Rb hq (pt_rf dl0) hc1641) fun a1642 d_a1642 b_a1642 => (pt_ck (pt_in hq (pt_rf d_a1642) rfl) fun hi1643 => (pt_letk rfl (Nat.le_refl _) (pt_sIa hq (pt_rf d_a1642) rfl (pt_I hq (pt_rf dl0) hc1641)) fun m1644 n1645 em1646 hn1648 hq1647 => (zX3_fewestPeople_28 hk6 ml_fu _ _ (pt_rf dl0) _ _ rfl _ _ rfl _ _ hq1647 (Nat.le_trans bl0 hn1648))))))))
theorem zX3_fewestPeople {p : Nat → Nat} {v0 r0 : ml_M} : ∀ (l0 l0' : Nat) (hl0 : pt_r p l0 l0') (m n : ml_M) (hq : pt_Q p v0 r0 m n) (bl0 : l0 ≤ ml_n m), pt_T (pt_WV p v0 r0) (fX3_fewestPeople l0 m) (fX3_fewestPeople l0' n) := by
  intro l0 l0' hl0 m n hq bl0
  obtain ⟨rfl, dl0⟩ := hl0
  unfold fX3_fewestPeople
  exact (pt_ck (pt_kc hq (pt_rf dl0)) fun hc1649 => (pt_b1m hq (zX3_findLasts _ _ (pt_rf dl0) _ _ (pt_ref hq) bl0) fun m1650 n1651 hn1653 hq1652 => (zX3_fewestPeople_6  ml_fu _ _ (pt_rf dl0) _ _ rfl _ _ hq1652 (Nat.le_trans bl0 hn1653))))
theorem zX10_travellers {p : Nat → Nat} {v0 r0 : ml_M} : ∀ (l0 l0' : Nat) (hl0 : pt_r p l0 l0') (m n : ml_M) (hq : pt_Q p v0 r0 m n) (bl0 : l0 ≤ ml_n m), pt_T (pt_WV p v0 r0) (fX10_travellers l0 m) (fX10_travellers l0' n) := by
  intro l0 l0' hl0 m n hq bl0
  obtain ⟨rfl, dl0⟩ := hl0
  unfold fX10_travellers
  exact (pt_ck (pt_kc hq (pt_rf dl0)) fun hc1654 => (pt_letr (pt_R hq (pt_rf dl0) hc1654) (pt_Rb hq (pt_rf dl0) hc1654) fun a1655 d_a1655 b_a1655 => (pt_letr (pt_R hq (pt_rf dl0) hc1654) (pt_Rb hq (pt_rf dl0) hc1654) fun a1656 d_a1656 b_a1656 => (pt_ck (pt_kc hq (pt_rf d_a1655)) fun hc1657 => (pt_b2 hq (zX3_gather _ _ (pt_rf d_a1655) _ _ (pt_rf d_a1656) _ _ (pt_I hq (pt_rf dl0) hc1654) _ _ (pt_e2 (fun (a b : Int32) => a - b) (pt_e2 (fun (a b : Int32) => a <<< (b &&& 31)) rfl (pt_I hq (pt_rf dl0) hc1654)) rfl) _ _ (pt_ref hq) b_a1655 b_a1656) fun r1658 m1659 n1660 hn1662 hq1661 => (pt_ite rfl (fun _ => (pt_ck (pt_kc hq1661 (pt_rf dl0)) fun hc1663 => (pt_letr (pt_R hq1661 (pt_rf dl0) hc1663) (pt_Rb hq1661 (pt_rf dl0) hc1663) fun a1664 d_a1664 b_a1664 => (pt_ck (pt_kc hq1661 (pt_rf d_a1664)) fun hc1665 => (pt_b2 hq1661 (zX3_fewestPeople _ _ (pt_rf d_a1664) _ _ (pt_ref hq1661) b_a1664) fun r1666 m1667 n1668 hn1670 hq1669 => (pt_retV rfl hq1669)))))) (fun _ => (pt_retV rfl hq1661))))))))
theorem zX10_water_83 {p : Nat → Nat} {v0 r0 : ml_M} {k7 k7' : Nat → Int32 → Int32 → Int32 → ml_M → Option (Int32 × ml_M)} (hk7 : ∀ (l0 l0' : Nat) (hl0 : pt_r p l0 l0') (l1 l1' : Int32) (hl1 : l1 = l1') (l2 l2' : Int32) (hl2 : l2 = l2') (l3 l3' : Int32) (hl3 : l3 = l3') (m n : ml_M) (hq : pt_Q p v0 r0 m n) (bl0 : l0 ≤ ml_n m), pt_T (pt_WV p v0 r0) (k7 l0 l1 l2 l3 m) (k7' l0' l1' l2' l3' n)) : ∀ (l0 l0' : Nat) (hl0 : pt_r p l0 l0') (l1 l1' : Int32) (hl1 : l1 = l1') (l2 l2' : Int32) (hl2 : l2 = l2') (l3 l3' : Int32) (hl3 : l3 = l3') (m n : ml_M) (hq : pt_Q p v0 r0 m n) (bl0 : l0 ≤ ml_n m), pt_T (pt_WV p v0 r0) (fX10_water_83 k7 l0 l1 l2 l3 m) (fX10_water_83 k7' l0' l1' l2' l3' n) := by
  intro l0 l0' hl0 l1 l1' hl1 l2 l2' hl2 l3 l3' hl3 m n hq bl0
  obtain ⟨rfl, dl0⟩ := hl0
  subst hl1
  subst hl2
  subst hl3
  unfold fX10_water_83
  exact (hk7 _ _ (pt_rf dl0) _ _ rfl _ _ rfl _ _ rfl _ _ hq bl0)
theorem zX10_water_89 {p : Nat → Nat} {v0 r0 : ml_M} : ∀ (l0 l0' : Nat) (hl0 : pt_r p l0 l0') (l1 l1' : Int32) (hl1 : l1 = l1') (l2 l2' : Int32) (hl2 : l2 = l2') (m n : ml_M) (hq : pt_Q p v0 r0 m n) (bl0 : l0 ≤ ml_n m), pt_T (pt_WV p v0 r0) (fX10_water_89 l0 l1 l2 m) (fX10_water_89 l0' l1' l2' n) := by
  intro l0 l0' hl0 l1 l1' hl1 l2 l2' hl2 m n hq bl0
  obtain ⟨rfl, dl0⟩ := hl0
  subst hl1
  subst hl2
  unfold fX10_water_89
  exact (pt_ite rfl (fun _ => (pt_ck (pt_kc hq (pt_rf dl0)) fun hc1671 => (pt_letk rfl (Nat.le_refl _) (pt_sI hq (pt_rf dl0) rfl) fun m1672 n1673 em1674 hn1676 hq1675 => (pt_retV rfl hq1675)))) (fun _ => (pt_retV rfl hq)))
theorem zX10_water_7 {p : Nat → Nat} {v0 r0 : ml_M} : ∀ (fu : Nat) (l0 l0' : Nat) (hl0 : pt_r p l0 l0') (l1 l1' : Int32) (hl1 : l1 = l1') (l2 l2' : Int32) (hl2 : l2 = l2') (l3 l3' : Int32) (hl3 : l3 = l3') (m n : ml_M) (hq : pt_Q p v0 r0 m n) (bl0 : l0 ≤ ml_n m), pt_T (pt_WV p v0 r0) (fX10_water_7 fu l0 l1 l2 l3 m) (fX10_water_7 fu l0' l1' l2' l3' n) := by
  intro fu
  induction fu with
  | zero => intro l0 l0' hl0 l1 l1' hl1 l2 l2' hl2 l3 l3' hl3 m n hq bl0; exact pt_none
  | succ fu ih =>
  intro l0 l0' hl0 l1 l1' hl1 l2 l2' hl2 l3 l3' hl3 m n hq bl0
  obtain ⟨rfl, dl0⟩ := hl0
  subst hl1
  subst hl2
  subst hl3
  have hk7 := ih
  unfold fX10_water_7
  exact (pt_ck (pt_kc hq (pt_rf dl0)) fun hc1677 => (pt_ite (pt_e2 (fun (a b : Int32) => b ≤ a) rfl (pt_I hq (pt_rf dl0) hc1677)) (fun _ => (zX10_water_89   _ _ (pt_rf dl0) _ _ rfl _ _ rfl _ _ hq bl0)) (fun _ => (pt_letr (pt_R hq (pt_rf dl0) hc1677) (pt_Rb hq (pt_rf dl0) hc1677) fun a1678 d_a1678 b_a1678 => (pt_ck (pt_in hq (pt_rf d_a1678) rfl) fun hi1679 => pt_letr (pt_Ra hq (pt_rf d_a1678) hi1679.1 rfl) (pt_Rb hq (pt_rf d_a1678) hi1679.1) fun a1680 d_a1680 b_a1680 => (pt_ck (pt_kc hq (pt_rf d_a1680)) fun hc1681 => (pt_b1 (zX10_isTrunk _ _ (pt_rf dl0) _ _ (pt_I hq (pt_rf d_a1680) hc1681) _ _ hq bl0) fun r1682 => (pt_ite rfl (fun _ => (zX10_water_83 hk7  _ _ (pt_rf dl0) _ _ rfl _ _ rfl _ _ rfl _ _ hq bl0)) (fun _ => (pt_letr (pt_R hq (pt_rf dl0) hc1677) (pt_Rb hq (pt_rf dl0) hc1677) fun a1683 d_a1683 b_a1683 => (pt_ck (pt_kc hq (pt_rf d_a1683)) fun hc1684 => (pt_letr (pt_R hq (pt_rf d_a1683) hc1684) (pt_Rb hq (pt_rf d_a1683) hc1684) fun a1685 d_a1685 b_a1685 => (pt_ck (pt_in hq (pt_rf d_a1685) (pt_I hq (pt_rf d_a1680) hc1681)) fun hi1686 => pt_letr (pt_Ra hq (pt_rf d_a1685) hi1686.1 (pt_I hq (pt_rf d_a1680) hc1681)) (pt_Rb hq (pt_rf d_a1685) hi1686.1) fun a1687 d_a1687 b_a1687 => (pt_ck (pt_kc hq (pt_rf d_a1687)) fun hc1688 => (pt_leti (pt_I hq (pt_rf d_a1687) hc1688) fun x1689 => (pt_ite (pt_e1 (fun (a : Int32) => a = 0) (pt_I hq (pt_rf d_a1680) hc1681)) (fun _ => (pt_leti rfl fun x1690 => (zX10_water_83 hk7  _ _ (pt_rf dl0) _ _ rfl _ _ rfl _ _ rfl _ _ hq bl0))) (fun _ => (pt_leti rfl fun x1691 => (zX10_water_83 hk7  _ _ (pt_rf dl0) _ _ rfl _ _ rfl _ _ rfl _ _ hq bl0)))))))))))))))))))
theorem zX10_water {p : Nat → Nat} {v0 r0 : ml_M} : ∀ (l0 l0' : Nat) (hl0 : pt_r p l0 l0') (m n : ml_M) (hq : pt_Q p v0 r0 m n) (bl0 : l0 ≤ ml_n m), pt_T (pt_WV p v0 r0) (fX10_water l0 m) (fX10_water l0' n) := by
  intro l0 l0' hl0 m n hq bl0
  obtain ⟨rfl, dl0⟩ := hl0
  unfold fX10_water
  exact (zX10_water_7  ml_fu _ _ (pt_rf dl0) _ _ rfl _ _ rfl _ _ rfl _ _ hq bl0)
theorem zX10_ways {p : Nat → Nat} {v0 r0 : ml_M} : ∀ (l0 l0' : Nat) (hl0 : pt_r p l0 l0') (l1 l1' : Int32) (hl1 : l1 = l1') (m n : ml_M) (hq : pt_Q p v0 r0 m n) (bl0 : l0 ≤ ml_n m), pt_T (pt_WV p v0 r0) (fX10_ways l0 l1 m) (fX10_ways l0' l1' n) := by
  intro l0 l0' hl0 l1 l1' hl1 m n hq bl0
  obtain ⟨rfl, dl0⟩ := hl0
  subst hl1
  unfold fX10_ways
  exact (pt_b1 (zX10_within _ _ rfl _ _ rfl _ _ rfl _ _ hq) fun r1692 => (pt_ite rfl (fun _ => (pt_retV rfl hq)) (fun _ => (pt_ck (pt_kc hq (pt_rf dl0)) fun hc1693 => (pt_b1m hq (zX10_refreshSharings _ _ (pt_rf dl0) _ _ (pt_ref hq) bl0) fun m1694 n1695 hn1697 hq1696 => (pt_ck (pt_kc hq1696 (pt_rf dl0)) fun hc1698 => (pt_letr (pt_R hq1696 (pt_rf dl0) hc1698) (pt_Rb hq1696 (pt_rf dl0) hc1698) fun a1699 d_a1699 b_a1699 => (pt_ck (pt_kc hq1696 (pt_rf d_a1699)) fun hc1700 => (pt_letr (pt_R hq1696 (pt_rf d_a1699) hc1700) (pt_Rb hq1696 (pt_rf d_a1699) hc1700) fun a1701 d_a1701 b_a1701 => (pt_ck (pt_in hq1696 (pt_rf d_a1701) rfl) fun hi1702 => (pt_retV (pt_Ia hq1696 (pt_rf d_a1701) hi1702.1 rfl) hq1696)))))))))))
theorem zX7_withPair {p : Nat → Nat} {v0 r0 : ml_M} : ∀ (l0 l0' : Nat) (hl0 : pt_r p l0 l0') (l1 l1' : Int32) (hl1 : l1 = l1') (l2 l2' : Int32) (hl2 : l2 = l2') (l3 l3' : Int32) (hl3 : l3 = l3') (m n : ml_M) (hq : pt_Q p v0 r0 m n) (bl0 : l0 ≤ ml_n m), pt_T pt_Wv (fX7_withPair l0 l1 l2 l3 m) (fX7_withPair l0' l1' l2' l3' n) := by
  intro l0 l0' hl0 l1 l1' hl1 l2 l2' hl2 l3 l3' hl3 m n hq bl0
  obtain ⟨rfl, dl0⟩ := hl0
  subst hl1
  subst hl2
  subst hl3
  unfold fX7_withPair
  exact (pt_ck (pt_kc hq (pt_rf dl0)) fun hc1703 => (pt_letr (pt_R hq (pt_rf dl0) hc1703) (pt_Rb hq (pt_rf dl0) hc1703) fun a1704 d_a1704 b_a1704 => (pt_ck (pt_in hq (pt_rf d_a1704) rfl) fun hi1705 => (pt_rtv (pt_Ia hq (pt_rf d_a1704) hi1705.1 rfl)))))
theorem zX10_sure_121 {p : Nat → Nat} {v0 r0 : ml_M} {k41 k41' : Nat → Int32 → Int32 → Int32 → Int32 → Int32 → ml_M → Option (Int32 × ml_M)} (hk41 : ∀ (l0 l0' : Nat) (hl0 : pt_r p l0 l0') (l1 l1' : Int32) (hl1 : l1 = l1') (l2 l2' : Int32) (hl2 : l2 = l2') (l3 l3' : Int32) (hl3 : l3 = l3') (l4 l4' : Int32) (hl4 : l4 = l4') (l5 l5' : Int32) (hl5 : l5 = l5') (m n : ml_M) (hq : pt_Q p v0 r0 m n) (bl0 : l0 ≤ ml_n m), pt_T (pt_WV p v0 r0) (k41 l0 l1 l2 l3 l4 l5 m) (k41' l0' l1' l2' l3' l4' l5' n)) : ∀ (l0 l0' : Nat) (hl0 : pt_r p l0 l0') (l1 l1' : Int32) (hl1 : l1 = l1') (l2 l2' : Int32) (hl2 : l2 = l2') (l3 l3' : Int32) (hl3 : l3 = l3') (l4 l4' : Int32) (hl4 : l4 = l4') (l5 l5' : Int32) (hl5 : l5 = l5') (m n : ml_M) (hq : pt_Q p v0 r0 m n) (bl0 : l0 ≤ ml_n m), pt_T (pt_WV p v0 r0) (fX10_sure_121 k41 l0 l1 l2 l3 l4 l5 m) (fX10_sure_121 k41' l0' l1' l2' l3' l4' l5' n) := by
  intro l0 l0' hl0 l1 l1' hl1 l2 l2' hl2 l3 l3' hl3 l4 l4' hl4 l5 l5' hl5 m n hq bl0
  obtain ⟨rfl, dl0⟩ := hl0
  subst hl1
  subst hl2
  subst hl3
  subst hl4
  subst hl5
  unfold fX10_sure_121
  exact (hk41 _ _ (pt_rf dl0) _ _ rfl _ _ rfl _ _ rfl _ _ rfl _ _ rfl _ _ hq bl0)
theorem zX10_sure_107 {p : Nat → Nat} {v0 r0 : ml_M} {k41 k41' : Nat → Int32 → Int32 → Int32 → Int32 → Int32 → ml_M → Option (Int32 × ml_M)} (hk41 : ∀ (l0 l0' : Nat) (hl0 : pt_r p l0 l0') (l1 l1' : Int32) (hl1 : l1 = l1') (l2 l2' : Int32) (hl2 : l2 = l2') (l3 l3' : Int32) (hl3 : l3 = l3') (l4 l4' : Int32) (hl4 : l4 = l4') (l5 l5' : Int32) (hl5 : l5 = l5') (m n : ml_M) (hq : pt_Q p v0 r0 m n) (bl0 : l0 ≤ ml_n m), pt_T (pt_WV p v0 r0) (k41 l0 l1 l2 l3 l4 l5 m) (k41' l0' l1' l2' l3' l4' l5' n)) : ∀ (l0 l0' : Nat) (hl0 : pt_r p l0 l0') (l1 l1' : Int32) (hl1 : l1 = l1') (l2 l2' : Int32) (hl2 : l2 = l2') (l3 l3' : Int32) (hl3 : l3 = l3') (l4 l4' : Int32) (hl4 : l4 = l4') (l5 l5' : Int32) (hl5 : l5 = l5') (l6 l6' : Int32) (hl6 : l6 = l6') (m n : ml_M) (hq : pt_Q p v0 r0 m n) (bl0 : l0 ≤ ml_n m), pt_T (pt_WV p v0 r0) (fX10_sure_107 k41 l0 l1 l2 l3 l4 l5 l6 m) (fX10_sure_107 k41' l0' l1' l2' l3' l4' l5' l6' n) := by
  intro l0 l0' hl0 l1 l1' hl1 l2 l2' hl2 l3 l3' hl3 l4 l4' hl4 l5 l5' hl5 l6 l6' hl6 m n hq bl0
  obtain ⟨rfl, dl0⟩ := hl0
  subst hl1
  subst hl2
  subst hl3
  subst hl4
  subst hl5
  subst hl6
  unfold fX10_sure_107
  exact (pt_ite rfl (fun _ => (zX10_sure_121 hk41  _ _ (pt_rf dl0) _ _ rfl _ _ rfl _ _ rfl _ _ rfl _ _ rfl _ _ hq bl0)) (fun _ => (pt_leti rfl fun x1706 => (zX10_sure_121 hk41  _ _ (pt_rf dl0) _ _ rfl _ _ rfl _ _ rfl _ _ rfl _ _ rfl _ _ hq bl0))))
theorem zX10_sure_94 {p : Nat → Nat} {v0 r0 : ml_M} {k41 k41' : Nat → Int32 → Int32 → Int32 → Int32 → Int32 → ml_M → Option (Int32 × ml_M)} (hk41 : ∀ (l0 l0' : Nat) (hl0 : pt_r p l0 l0') (l1 l1' : Int32) (hl1 : l1 = l1') (l2 l2' : Int32) (hl2 : l2 = l2') (l3 l3' : Int32) (hl3 : l3 = l3') (l4 l4' : Int32) (hl4 : l4 = l4') (l5 l5' : Int32) (hl5 : l5 = l5') (m n : ml_M) (hq : pt_Q p v0 r0 m n) (bl0 : l0 ≤ ml_n m), pt_T (pt_WV p v0 r0) (k41 l0 l1 l2 l3 l4 l5 m) (k41' l0' l1' l2' l3' l4' l5' n)) : ∀ (l0 l0' : Nat) (hl0 : pt_r p l0 l0') (l1 l1' : Int32) (hl1 : l1 = l1') (l2 l2' : Int32) (hl2 : l2 = l2') (l3 l3' : Int32) (hl3 : l3 = l3') (l4 l4' : Int32) (hl4 : l4 = l4') (l5 l5' : Int32) (hl5 : l5 = l5') (l6 l6' : Int32) (hl6 : l6 = l6') (m n : ml_M) (hq : pt_Q p v0 r0 m n) (bl0 : l0 ≤ ml_n m), pt_T (pt_WV p v0 r0) (fX10_sure_94 k41 l0 l1 l2 l3 l4 l5 l6 m) (fX10_sure_94 k41' l0' l1' l2' l3' l4' l5' l6' n) := by
  intro l0 l0' hl0 l1 l1' hl1 l2 l2' hl2 l3 l3' hl3 l4 l4' hl4 l5 l5' hl5 l6 l6' hl6 m n hq bl0
  obtain ⟨rfl, dl0⟩ := hl0
  subst hl1
  subst hl2
  subst hl3
  subst hl4
  subst hl5
  subst hl6
  unfold fX10_sure_94
  exact (pt_ite rfl (fun _ => (pt_leti rfl fun x1707 => (zX10_sure_107 hk41  _ _ (pt_rf dl0) _ _ rfl _ _ rfl _ _ rfl _ _ rfl _ _ rfl _ _ rfl _ _ hq bl0))) (fun _ => (zX10_sure_107 hk41  _ _ (pt_rf dl0) _ _ rfl _ _ rfl _ _ rfl _ _ rfl _ _ rfl _ _ rfl _ _ hq bl0)))
theorem zX10_sure_59 {p : Nat → Nat} {v0 r0 : ml_M} {k41 k41' : Nat → Int32 → Int32 → Int32 → Int32 → Int32 → ml_M → Option (Int32 × ml_M)} (hk41 : ∀ (l0 l0' : Nat) (hl0 : pt_r p l0 l0') (l1 l1' : Int32) (hl1 : l1 = l1') (l2 l2' : Int32) (hl2 : l2 = l2') (l3 l3' : Int32) (hl3 : l3 = l3') (l4 l4' : Int32) (hl4 : l4 = l4') (l5 l5' : Int32) (hl5 : l5 = l5') (m n : ml_M) (hq : pt_Q p v0 r0 m n) (bl0 : l0 ≤ ml_n m), pt_T (pt_WV p v0 r0) (k41 l0 l1 l2 l3 l4 l5 m) (k41' l0' l1' l2' l3' l4' l5' n)) : ∀ (fu : Nat) (l0 l0' : Nat) (hl0 : pt_r p l0 l0') (l1 l1' : Int32) (hl1 : l1 = l1') (l2 l2' : Int32) (hl2 : l2 = l2') (l3 l3' : Int32) (hl3 : l3 = l3') (l4 l4' : Int32) (hl4 : l4 = l4') (l5 l5' : Int32) (hl5 : l5 = l5') (l6 l6' : Int32) (hl6 : l6 = l6') (l7 l7' : Int32) (hl7 : l7 = l7') (m n : ml_M) (hq : pt_Q p v0 r0 m n) (bl0 : l0 ≤ ml_n m), pt_T (pt_WV p v0 r0) (fX10_sure_59 k41 fu l0 l1 l2 l3 l4 l5 l6 l7 m) (fX10_sure_59 k41' fu l0' l1' l2' l3' l4' l5' l6' l7' n) := by
  intro fu
  induction fu with
  | zero => intro l0 l0' hl0 l1 l1' hl1 l2 l2' hl2 l3 l3' hl3 l4 l4' hl4 l5 l5' hl5 l6 l6' hl6 l7 l7' hl7 m n hq bl0; exact pt_none
  | succ fu ih =>
  intro l0 l0' hl0 l1 l1' hl1 l2 l2' hl2 l3 l3' hl3 l4 l4' hl4 l5 l5' hl5 l6 l6' hl6 l7 l7' hl7 m n hq bl0
  obtain ⟨rfl, dl0⟩ := hl0
  subst hl1
  subst hl2
  subst hl3
  subst hl4
  subst hl5
  subst hl6
  subst hl7
  have hk59 := ih
  unfold fX10_sure_59
  exact (pt_ck (pt_kc hq (pt_rf dl0)) fun hc1708 => (pt_letr (pt_R hq (pt_rf dl0) hc1708) (pt_Rb hq (pt_rf dl0) hc1708) fun a1709 d_a1709 b_a1709 => (pt_ck (pt_kc hq (pt_rf d_a1709)) fun hc1710 => (pt_ite (pt_e2 (fun (a b : Int32) => b ≤ a) rfl (pt_I hq (pt_rf d_a1709) hc1710)) (fun _ => (zX10_sure_94 hk41  _ _ (pt_rf dl0) _ _ rfl _ _ rfl _ _ rfl _ _ rfl _ _ rfl _ _ rfl _ _ hq bl0)) (fun _ => (pt_letr (pt_R hq (pt_rf dl0) hc1708) (pt_Rb hq (pt_rf dl0) hc1708) fun a1711 d_a1711 b_a1711 => (pt_ck (pt_kc hq (pt_rf d_a1711)) fun hc1712 => (pt_b1 (zX7_withPair _ _ (pt_rf d_a1711) _ _ rfl _ _ rfl _ _ rfl _ _ hq b_a1711) fun r1713 => (pt_leti rfl fun x1714 => (hk59 _ _ (pt_rf dl0) _ _ rfl _ _ rfl _ _ rfl _ _ rfl _ _ rfl _ _ rfl _ _ rfl _ _ hq bl0))))))))))
theorem zX10_sure_127 {p : Nat → Nat} {v0 r0 : ml_M} : ∀ (l0 l0' : Nat) (hl0 : pt_r p l0 l0') (l3 l3' : Int32) (hl3 : l3 = l3') (l4 l4' : Int32) (hl4 : l4 = l4') (m n : ml_M) (hq : pt_Q p v0 r0 m n) (bl0 : l0 ≤ ml_n m), pt_T (pt_WV p v0 r0) (fX10_sure_127 l0 l3 l4 m) (fX10_sure_127 l0' l3' l4' n) := by
  intro l0 l0' hl0 l3 l3' hl3 l4 l4' hl4 m n hq bl0
  obtain ⟨rfl, dl0⟩ := hl0
  subst hl3
  subst hl4
  unfold fX10_sure_127
  exact (pt_ck (pt_kc hq (pt_rf dl0)) fun hc1715 => (pt_letk rfl (Nat.le_refl _) (pt_sI hq (pt_rf dl0) rfl) fun m1716 n1717 em1718 hn1720 hq1719 => (pt_retV rfl hq1719)))
theorem zX10_sure_41 {p : Nat → Nat} {v0 r0 : ml_M} : ∀ (fu : Nat) (l0 l0' : Nat) (hl0 : pt_r p l0 l0') (l1 l1' : Int32) (hl1 : l1 = l1') (l2 l2' : Int32) (hl2 : l2 = l2') (l3 l3' : Int32) (hl3 : l3 = l3') (l4 l4' : Int32) (hl4 : l4 = l4') (l5 l5' : Int32) (hl5 : l5 = l5') (m n : ml_M) (hq : pt_Q p v0 r0 m n) (bl0 : l0 ≤ ml_n m), pt_T (pt_WV p v0 r0) (fX10_sure_41 fu l0 l1 l2 l3 l4 l5 m) (fX10_sure_41 fu l0' l1' l2' l3' l4' l5' n) := by
  intro fu
  induction fu with
  | zero => intro l0 l0' hl0 l1 l1' hl1 l2 l2' hl2 l3 l3' hl3 l4 l4' hl4 l5 l5' hl5 m n hq bl0; exact pt_none
  | succ fu ih =>
  intro l0 l0' hl0 l1 l1' hl1 l2 l2' hl2 l3 l3' hl3 l4 l4' hl4 l5 l5' hl5 m n hq bl0
  obtain ⟨rfl, dl0⟩ := hl0
  subst hl1
  subst hl2
  subst hl3
  subst hl4
  subst hl5
  have hk41 := ih
  unfold fX10_sure_41
  exact (pt_ck (pt_kc hq (pt_rf dl0)) fun hc1721 => (pt_letr (pt_R hq (pt_rf dl0) hc1721) (pt_Rb hq (pt_rf dl0) hc1721) fun a1722 d_a1722 b_a1722 => (pt_ck (pt_kc hq (pt_rf d_a1722)) fun hc1723 => (pt_ite (pt_e2 (fun (a b : Int32) => b ≤ a) rfl (pt_I hq (pt_rf d_a1722) hc1723)) (fun _ => (zX10_sure_127   _ _ (pt_rf dl0) _ _ rfl _ _ rfl _ _ hq bl0)) (fun _ => (zX10_sure_59 hk41 ml_fu _ _ (pt_rf dl0) _ _ rfl _ _ rfl _ _ rfl _ _ rfl _ _ rfl _ _ rfl _ _ rfl _ _ hq bl0))))))
theorem zX10_sure {p : Nat → Nat} {v0 r0 : ml_M} : ∀ (l0 l0' : Nat) (hl0 : pt_r p l0 l0') (l1 l1' : Int32) (hl1 : l1 = l1') (m n : ml_M) (hq : pt_Q p v0 r0 m n) (bl0 : l0 ≤ ml_n m), pt_T (pt_WV p v0 r0) (fX10_sure l0 l1 m) (fX10_sure l0' l1' n) := by
  intro l0 l0' hl0 l1 l1' hl1 m n hq bl0
  obtain ⟨rfl, dl0⟩ := hl0
  subst hl1
  unfold fX10_sure
  exact (pt_b1 (zX10_within _ _ rfl _ _ rfl _ _ rfl _ _ hq) fun r1724 => (pt_ite rfl (fun _ => (pt_retV rfl hq)) (fun _ => (pt_ck (pt_kc hq (pt_rf dl0)) fun hc1725 => (pt_b1m hq (zX10_refreshSharings _ _ (pt_rf dl0) _ _ (pt_ref hq) bl0) fun m1726 n1727 hn1729 hq1728 => (pt_ck (pt_kc hq1728 (pt_rf dl0)) fun hc1730 => (pt_letr (pt_R hq1728 (pt_rf dl0) hc1730) (pt_Rb hq1728 (pt_rf dl0) hc1730) fun a1731 d_a1731 b_a1731 => (pt_ck (pt_kc hq1728 (pt_rf d_a1731)) fun hc1732 => (pt_letr (pt_R hq1728 (pt_rf d_a1731) hc1732) (pt_Rb hq1728 (pt_rf d_a1731) hc1732) fun a1733 d_a1733 b_a1733 => (pt_ck (pt_in hq1728 (pt_rf d_a1733) rfl) fun hi1734 => (pt_leti (pt_Ia hq1728 (pt_rf d_a1733) hi1734.1 rfl) fun x1735 => (pt_ite rfl (fun _ => (pt_retV rfl hq1728)) (fun _ => (zX10_sure_41  ml_fu _ _ (pt_rf dl0) _ _ rfl _ _ rfl _ _ rfl _ _ rfl _ _ rfl _ _ hq1728 (Nat.le_trans bl0 hn1729)))))))))))))))
theorem zX10_next_122 {p : Nat → Nat} {v0 r0 : ml_M} {k49 k49' : Nat → Int32 → Int32 → Int32 → Int32 → ml_M → Option (Int32 × ml_M)} (hk49 : ∀ (l0 l0' : Nat) (hl0 : pt_r p l0 l0') (l1 l1' : Int32) (hl1 : l1 = l1') (l2 l2' : Int32) (hl2 : l2 = l2') (l3 l3' : Int32) (hl3 : l3 = l3') (l4 l4' : Int32) (hl4 : l4 = l4') (m n : ml_M) (hq : pt_Q p v0 r0 m n) (bl0 : l0 ≤ ml_n m), pt_T (pt_WV p v0 r0) (k49 l0 l1 l2 l3 l4 m) (k49' l0' l1' l2' l3' l4' n)) : ∀ (l0 l0' : Nat) (hl0 : pt_r p l0 l0') (l1 l1' : Int32) (hl1 : l1 = l1') (l2 l2' : Int32) (hl2 : l2 = l2') (l3 l3' : Int32) (hl3 : l3 = l3') (l4 l4' : Int32) (hl4 : l4 = l4') (m n : ml_M) (hq : pt_Q p v0 r0 m n) (bl0 : l0 ≤ ml_n m), pt_T (pt_WV p v0 r0) (fX10_next_122 k49 l0 l1 l2 l3 l4 m) (fX10_next_122 k49' l0' l1' l2' l3' l4' n) := by
  intro l0 l0' hl0 l1 l1' hl1 l2 l2' hl2 l3 l3' hl3 l4 l4' hl4 m n hq bl0
  obtain ⟨rfl, dl0⟩ := hl0
  subst hl1
  subst hl2
  subst hl3
  subst hl4
  unfold fX10_next_122
  exact (hk49 _ _ (pt_rf dl0) _ _ rfl _ _ rfl _ _ rfl _ _ rfl _ _ hq bl0)
theorem zX10_next_116 {p : Nat → Nat} {v0 r0 : ml_M} {k49 k49' : Nat → Int32 → Int32 → Int32 → Int32 → ml_M → Option (Int32 × ml_M)} (hk49 : ∀ (l0 l0' : Nat) (hl0 : pt_r p l0 l0') (l1 l1' : Int32) (hl1 : l1 = l1') (l2 l2' : Int32) (hl2 : l2 = l2') (l3 l3' : Int32) (hl3 : l3 = l3') (l4 l4' : Int32) (hl4 : l4 = l4') (m n : ml_M) (hq : pt_Q p v0 r0 m n) (bl0 : l0 ≤ ml_n m), pt_T (pt_WV p v0 r0) (k49 l0 l1 l2 l3 l4 m) (k49' l0' l1' l2' l3' l4' n)) : ∀ (l0 l0' : Nat) (hl0 : pt_r p l0 l0') (l1 l1' : Int32) (hl1 : l1 = l1') (l4 l4' : Int32) (hl4 : l4 = l4') (l5 l5' : Int32) (hl5 : l5 = l5') (m n : ml_M) (hq : pt_Q p v0 r0 m n) (bl0 : l0 ≤ ml_n m), pt_T (pt_WV p v0 r0) (fX10_next_116 k49 l0 l1 l4 l5 m) (fX10_next_116 k49' l0' l1' l4' l5' n) := by
  intro l0 l0' hl0 l1 l1' hl1 l4 l4' hl4 l5 l5' hl5 m n hq bl0
  obtain ⟨rfl, dl0⟩ := hl0
  subst hl1
  subst hl4
  subst hl5
  unfold fX10_next_116
  exact (zX10_next_122 hk49  _ _ (pt_rf dl0) _ _ rfl _ _ rfl _ _ rfl _ _ rfl _ _ hq bl0)
theorem zX10_next_104 {p : Nat → Nat} {v0 r0 : ml_M} {k49 k49' : Nat → Int32 → Int32 → Int32 → Int32 → ml_M → Option (Int32 × ml_M)} (hk49 : ∀ (l0 l0' : Nat) (hl0 : pt_r p l0 l0') (l1 l1' : Int32) (hl1 : l1 = l1') (l2 l2' : Int32) (hl2 : l2 = l2') (l3 l3' : Int32) (hl3 : l3 = l3') (l4 l4' : Int32) (hl4 : l4 = l4') (m n : ml_M) (hq : pt_Q p v0 r0 m n) (bl0 : l0 ≤ ml_n m), pt_T (pt_WV p v0 r0) (k49 l0 l1 l2 l3 l4 m) (k49' l0' l1' l2' l3' l4' n)) : ∀ (l0 l0' : Nat) (hl0 : pt_r p l0 l0') (l1 l1' : Int32) (hl1 : l1 = l1') (l2 l2' : Int32) (hl2 : l2 = l2') (l3 l3' : Int32) (hl3 : l3 = l3') (l4 l4' : Int32) (hl4 : l4 = l4') (l5 l5' : Int32) (hl5 : l5 = l5') (m n : ml_M) (hq : pt_Q p v0 r0 m n) (bl0 : l0 ≤ ml_n m), pt_T (pt_WV p v0 r0) (fX10_next_104 k49 l0 l1 l2 l3 l4 l5 m) (fX10_next_104 k49' l0' l1' l2' l3' l4' l5' n) := by
  intro l0 l0' hl0 l1 l1' hl1 l2 l2' hl2 l3 l3' hl3 l4 l4' hl4 l5 l5' hl5 m n hq bl0
  obtain ⟨rfl, dl0⟩ := hl0
  subst hl1
  subst hl2
  subst hl3
  subst hl4
  subst hl5
  unfold fX10_next_104
  exact (pt_ite rfl (fun _ => (zX10_next_116 hk49  _ _ (pt_rf dl0) _ _ rfl _ _ rfl _ _ rfl _ _ hq bl0)) (fun _ => (pt_ite rfl (fun _ => (zX10_next_122 hk49  _ _ (pt_rf dl0) _ _ rfl _ _ rfl _ _ rfl _ _ rfl _ _ hq bl0)) (fun _ => (zX10_next_116 hk49  _ _ (pt_rf dl0) _ _ rfl _ _ rfl _ _ rfl _ _ hq bl0)))))
theorem zX10_next_67 {p : Nat → Nat} {v0 r0 : ml_M} {k49 k49' : Nat → Int32 → Int32 → Int32 → Int32 → ml_M → Option (Int32 × ml_M)} (hk49 : ∀ (l0 l0' : Nat) (hl0 : pt_r p l0 l0') (l1 l1' : Int32) (hl1 : l1 = l1') (l2 l2' : Int32) (hl2 : l2 = l2') (l3 l3' : Int32) (hl3 : l3 = l3') (l4 l4' : Int32) (hl4 : l4 = l4') (m n : ml_M) (hq : pt_Q p v0 r0 m n) (bl0 : l0 ≤ ml_n m), pt_T (pt_WV p v0 r0) (k49 l0 l1 l2 l3 l4 m) (k49' l0' l1' l2' l3' l4' n)) : ∀ (fu : Nat) (l0 l0' : Nat) (hl0 : pt_r p l0 l0') (l1 l1' : Int32) (hl1 : l1 = l1') (l2 l2' : Int32) (hl2 : l2 = l2') (l3 l3' : Int32) (hl3 : l3 = l3') (l4 l4' : Int32) (hl4 : l4 = l4') (l5 l5' : Int32) (hl5 : l5 = l5') (l6 l6' : Int32) (hl6 : l6 = l6') (m n : ml_M) (hq : pt_Q p v0 r0 m n) (bl0 : l0 ≤ ml_n m), pt_T (pt_WV p v0 r0) (fX10_next_67 k49 fu l0 l1 l2 l3 l4 l5 l6 m) (fX10_next_67 k49' fu l0' l1' l2' l3' l4' l5' l6' n) := by
  intro fu
  induction fu with
  | zero => intro l0 l0' hl0 l1 l1' hl1 l2 l2' hl2 l3 l3' hl3 l4 l4' hl4 l5 l5' hl5 l6 l6' hl6 m n hq bl0; exact pt_none
  | succ fu ih =>
  intro l0 l0' hl0 l1 l1' hl1 l2 l2' hl2 l3 l3' hl3 l4 l4' hl4 l5 l5' hl5 l6 l6' hl6 m n hq bl0
  obtain ⟨rfl, dl0⟩ := hl0
  subst hl1
  subst hl2
  subst hl3
  subst hl4
  subst hl5
  subst hl6
  have hk67 := ih
  unfold fX10_next_67
  exact (pt_ck (pt_kc hq (pt_rf dl0)) fun hc1736 => (pt_letr (pt_R hq (pt_rf dl0) hc1736) (pt_Rb hq (pt_rf dl0) hc1736) fun a1737 d_a1737 b_a1737 => (pt_ck (pt_kc hq (pt_rf d_a1737)) fun hc1738 => (pt_ite (pt_e2 (fun (a b : Int32) => b ≤ a) rfl (pt_I hq (pt_rf d_a1737) hc1738)) (fun _ => (zX10_next_104 hk49  _ _ (pt_rf dl0) _ _ rfl _ _ rfl _ _ rfl _ _ rfl _ _ rfl _ _ hq bl0)) (fun _ => (pt_letr (pt_R hq (pt_rf dl0) hc1736) (pt_Rb hq (pt_rf dl0) hc1736) fun a1739 d_a1739 b_a1739 => (pt_ck (pt_kc hq (pt_rf d_a1739)) fun hc1740 => (pt_b1 (zX7_withPair _ _ (pt_rf d_a1739) _ _ rfl _ _ rfl _ _ rfl _ _ hq b_a1739) fun r1741 => (pt_leti rfl fun x1742 => (hk67 _ _ (pt_rf dl0) _ _ rfl _ _ rfl _ _ rfl _ _ rfl _ _ rfl _ _ rfl _ _ hq bl0))))))))))
theorem zX10_next_128 {p : Nat → Nat} {v0 r0 : ml_M} : ∀ (l0 l0' : Nat) (hl0 : pt_r p l0 l0') (l2 l2' : Int32) (hl2 : l2 = l2') (l3 l3' : Int32) (hl3 : l3 = l3') (m n : ml_M) (hq : pt_Q p v0 r0 m n) (bl0 : l0 ≤ ml_n m), pt_T (pt_WV p v0 r0) (fX10_next_128 l0 l2 l3 m) (fX10_next_128 l0' l2' l3' n) := by
  intro l0 l0' hl0 l2 l2' hl2 l3 l3' hl3 m n hq bl0
  obtain ⟨rfl, dl0⟩ := hl0
  subst hl2
  subst hl3
  unfold fX10_next_128
  exact (pt_ck (pt_kc hq (pt_rf dl0)) fun hc1743 => (pt_letk rfl (Nat.le_refl _) (pt_sI hq (pt_rf dl0) rfl) fun m1744 n1745 em1746 hn1748 hq1747 => (pt_retV rfl hq1747)))
theorem zX10_next_49 {p : Nat → Nat} {v0 r0 : ml_M} : ∀ (fu : Nat) (l0 l0' : Nat) (hl0 : pt_r p l0 l0') (l1 l1' : Int32) (hl1 : l1 = l1') (l2 l2' : Int32) (hl2 : l2 = l2') (l3 l3' : Int32) (hl3 : l3 = l3') (l4 l4' : Int32) (hl4 : l4 = l4') (m n : ml_M) (hq : pt_Q p v0 r0 m n) (bl0 : l0 ≤ ml_n m), pt_T (pt_WV p v0 r0) (fX10_next_49 fu l0 l1 l2 l3 l4 m) (fX10_next_49 fu l0' l1' l2' l3' l4' n) := by
  intro fu
  induction fu with
  | zero => intro l0 l0' hl0 l1 l1' hl1 l2 l2' hl2 l3 l3' hl3 l4 l4' hl4 m n hq bl0; exact pt_none
  | succ fu ih =>
  intro l0 l0' hl0 l1 l1' hl1 l2 l2' hl2 l3 l3' hl3 l4 l4' hl4 m n hq bl0
  obtain ⟨rfl, dl0⟩ := hl0
  subst hl1
  subst hl2
  subst hl3
  subst hl4
  have hk49 := ih
  unfold fX10_next_49
  exact (pt_ck (pt_kc hq (pt_rf dl0)) fun hc1749 => (pt_letr (pt_R hq (pt_rf dl0) hc1749) (pt_Rb hq (pt_rf dl0) hc1749) fun a1750 d_a1750 b_a1750 => (pt_ck (pt_kc hq (pt_rf d_a1750)) fun hc1751 => (pt_ite (pt_e2 (fun (a b : Int32) => b ≤ a) rfl (pt_I hq (pt_rf d_a1750) hc1751)) (fun _ => (zX10_next_128   _ _ (pt_rf dl0) _ _ rfl _ _ rfl _ _ hq bl0)) (fun _ => (zX10_next_67 hk49 ml_fu _ _ (pt_rf dl0) _ _ rfl _ _ rfl _ _ rfl _ _ rfl _ _ rfl _ _ rfl _ _ hq bl0))))))
theorem zX10_next {p : Nat → Nat} {v0 r0 : ml_M} : ∀ (l0 l0' : Nat) (hl0 : pt_r p l0 l0') (l1 l1' : Int32) (hl1 : l1 = l1') (m n : ml_M) (hq : pt_Q p v0 r0 m n) (bl0 : l0 ≤ ml_n m), pt_T (pt_WV p v0 r0) (fX10_next l0 l1 m) (fX10_next l0' l1' n) := by
  intro l0 l0' hl0 l1 l1' hl1 m n hq bl0
  obtain ⟨rfl, dl0⟩ := hl0
  subst hl1
  unfold fX10_next
  exact (pt_b1 (zX10_within _ _ rfl _ _ rfl _ _ rfl _ _ hq) fun r1752 => (pt_ite rfl (fun _ => (pt_retV rfl hq)) (fun _ => (pt_ck (pt_kc hq (pt_rf dl0)) fun hc1753 => (pt_b1m hq (zX10_refreshSharings _ _ (pt_rf dl0) _ _ (pt_ref hq) bl0) fun m1754 n1755 hn1757 hq1756 => (pt_ck (pt_kc hq1756 (pt_rf dl0)) fun hc1758 => (pt_letr (pt_R hq1756 (pt_rf dl0) hc1758) (pt_Rb hq1756 (pt_rf dl0) hc1758) fun a1759 d_a1759 b_a1759 => (pt_ck (pt_kc hq1756 (pt_rf d_a1759)) fun hc1760 => (pt_letr (pt_R hq1756 (pt_rf d_a1759) hc1760) (pt_Rb hq1756 (pt_rf d_a1759) hc1760) fun a1761 d_a1761 b_a1761 => (pt_ck (pt_in hq1756 (pt_rf d_a1761) rfl) fun hi1762 => (pt_ite (pt_e1 (fun (a : Int32) => a = 0) (pt_Ia hq1756 (pt_rf d_a1761) hi1762.1 rfl)) (fun _ => (pt_retV rfl hq1756)) (fun _ => (pt_letr (pt_R hq1756 (pt_rf dl0) hc1758) (pt_Rb hq1756 (pt_rf dl0) hc1758) fun a1763 d_a1763 b_a1763 => (pt_ck (pt_kc hq1756 (pt_rf d_a1763)) fun hc1764 => (pt_ite (pt_e1 (fun (a : Int32) => a = 0) (pt_I hq1756 (pt_rf d_a1763) hc1764)) (fun _ => (pt_retV rfl hq1756)) (fun _ => (zX10_next_49  ml_fu _ _ (pt_rf dl0) _ _ rfl _ _ rfl _ _ rfl _ _ rfl _ _ hq1756 (Nat.le_trans bl0 hn1757))))))))))))))))))
theorem zX10_whose_62 {p : Nat → Nat} {v0 r0 : ml_M} {k29 k29' : Nat → Int32 → Int32 → Int32 → Int32 → ml_M → Option (Int32 × ml_M)} (hk29 : ∀ (l0 l0' : Nat) (hl0 : pt_r p l0 l0') (l1 l1' : Int32) (hl1 : l1 = l1') (l2 l2' : Int32) (hl2 : l2 = l2') (l3 l3' : Int32) (hl3 : l3 = l3') (l4 l4' : Int32) (hl4 : l4 = l4') (m n : ml_M) (hq : pt_Q p v0 r0 m n) (bl0 : l0 ≤ ml_n m), pt_T (pt_WV p v0 r0) (k29 l0 l1 l2 l3 l4 m) (k29' l0' l1' l2' l3' l4' n)) : ∀ (l0 l0' : Nat) (hl0 : pt_r p l0 l0') (l1 l1' : Int32) (hl1 : l1 = l1') (l2 l2' : Int32) (hl2 : l2 = l2') (l3 l3' : Int32) (hl3 : l3 = l3') (l4 l4' : Int32) (hl4 : l4 = l4') (m n : ml_M) (hq : pt_Q p v0 r0 m n) (bl0 : l0 ≤ ml_n m), pt_T (pt_WV p v0 r0) (fX10_whose_62 k29 l0 l1 l2 l3 l4 m) (fX10_whose_62 k29' l0' l1' l2' l3' l4' n) := by
  intro l0 l0' hl0 l1 l1' hl1 l2 l2' hl2 l3 l3' hl3 l4 l4' hl4 m n hq bl0
  obtain ⟨rfl, dl0⟩ := hl0
  subst hl1
  subst hl2
  subst hl3
  subst hl4
  unfold fX10_whose_62
  exact (hk29 _ _ (pt_rf dl0) _ _ rfl _ _ rfl _ _ rfl _ _ rfl _ _ hq bl0)
theorem zX10_whose_29 {p : Nat → Nat} {v0 r0 : ml_M} : ∀ (fu : Nat) (l0 l0' : Nat) (hl0 : pt_r p l0 l0') (l1 l1' : Int32) (hl1 : l1 = l1') (l2 l2' : Int32) (hl2 : l2 = l2') (l3 l3' : Int32) (hl3 : l3 = l3') (l4 l4' : Int32) (hl4 : l4 = l4') (m n : ml_M) (hq : pt_Q p v0 r0 m n) (bl0 : l0 ≤ ml_n m), pt_T (pt_WV p v0 r0) (fX10_whose_29 fu l0 l1 l2 l3 l4 m) (fX10_whose_29 fu l0' l1' l2' l3' l4' n) := by
  intro fu
  induction fu with
  | zero => intro l0 l0' hl0 l1 l1' hl1 l2 l2' hl2 l3 l3' hl3 l4 l4' hl4 m n hq bl0; exact pt_none
  | succ fu ih =>
  intro l0 l0' hl0 l1 l1' hl1 l2 l2' hl2 l3 l3' hl3 l4 l4' hl4 m n hq bl0
  obtain ⟨rfl, dl0⟩ := hl0
  subst hl1
  subst hl2
  subst hl3
  subst hl4
  have hk29 := ih
  unfold fX10_whose_29
  exact (pt_ck (pt_kc hq (pt_rf dl0)) fun hc1765 => (pt_letr (pt_R hq (pt_rf dl0) hc1765) (pt_Rb hq (pt_rf dl0) hc1765) fun a1766 d_a1766 b_a1766 => (pt_ck (pt_kc hq (pt_rf d_a1766)) fun hc1767 => (pt_ite (pt_e2 (fun (a b : Int32) => b ≤ a) rfl (pt_I hq (pt_rf d_a1766) hc1767)) (fun _ => (pt_retV rfl hq)) (fun _ => (pt_letr (pt_R hq (pt_rf dl0) hc1765) (pt_Rb hq (pt_rf dl0) hc1765) fun a1768 d_a1768 b_a1768 => (pt_ck (pt_kc hq (pt_rf d_a1768)) fun hc1769 => (pt_b1 (zX7_withPair _ _ (pt_rf d_a1768) _ _ rfl _ _ rfl _ _ rfl _ _ hq b_a1768) fun r1770 => (pt_ite rfl (fun _ => (zX10_whose_62 hk29  _ _ (pt_rf dl0) _ _ rfl _ _ rfl _ _ rfl _ _ rfl _ _ hq bl0)) (fun _ => (pt_leti rfl fun x1771 => (zX10_whose_62 hk29  _ _ (pt_rf dl0) _ _ rfl _ _ rfl _ _ rfl _ _ rfl _ _ hq bl0))))))))))))
theorem zX10_whose {p : Nat → Nat} {v0 r0 : ml_M} : ∀ (l0 l0' : Nat) (hl0 : pt_r p l0 l0') (l1 l1' : Int32) (hl1 : l1 = l1') (l2 l2' : Int32) (hl2 : l2 = l2') (m n : ml_M) (hq : pt_Q p v0 r0 m n) (bl0 : l0 ≤ ml_n m), pt_T (pt_WV p v0 r0) (fX10_whose l0 l1 l2 m) (fX10_whose l0' l1' l2' n) := by
  intro l0 l0' hl0 l1 l1' hl1 l2 l2' hl2 m n hq bl0
  obtain ⟨rfl, dl0⟩ := hl0
  subst hl1
  subst hl2
  unfold fX10_whose
  exact (pt_ck (pt_kc hq (pt_rf dl0)) fun hc1772 => (pt_b1 (zX10_isTrunk _ _ (pt_rf dl0) _ _ rfl _ _ hq bl0) fun r1773 => (pt_ite rfl (fun _ => (pt_retV rfl hq)) (fun _ => (pt_b1 (zX10_within _ _ rfl _ _ rfl _ _ rfl _ _ hq) fun r1774 => (pt_ite rfl (fun _ => (pt_retV rfl hq)) (fun _ => (pt_b1m hq (zX10_refreshSharings _ _ (pt_rf dl0) _ _ (pt_ref hq) bl0) fun m1775 n1776 hn1778 hq1777 => (zX10_whose_29  ml_fu _ _ (pt_rf dl0) _ _ rfl _ _ rfl _ _ rfl _ _ rfl _ _ hq1777 (Nat.le_trans bl0 hn1778))))))))))
theorem zX7_isSharing_80 {p : Nat → Nat} {v0 r0 : ml_M} : ∀ (l0 l0' : Nat) (hl0 : pt_r p l0 l0') (l2 l2' : Int32) (hl2 : l2 = l2') (m n : ml_M) (hq : pt_Q p v0 r0 m n) (bl0 : l0 ≤ ml_n m), pt_T (pt_WV p v0 r0) (fX7_isSharing_80 l0 l2 m) (fX7_isSharing_80 l0' l2' n) := by
  intro l0 l0' hl0 l2 l2' hl2 m n hq bl0
  obtain ⟨rfl, dl0⟩ := hl0
  subst hl2
  unfold fX7_isSharing_80
  exact (pt_ck (pt_kc hq (pt_rf dl0)) fun hc1779 => (pt_letr (pt_R hq (pt_rf dl0) hc1779) (pt_Rb hq (pt_rf dl0) hc1779) fun a1780 d_a1780 b_a1780 => (pt_ck (pt_in hq (pt_rf d_a1780) rfl) fun hi1781 => (pt_ck (pt_z01 (pt_Ia hq (pt_rf d_a1780) hi1781.1 rfl)) fun _ => (pt_retV (pt_Ia hq (pt_rf d_a1780) hi1781.1 rfl) hq)))))
theorem zX7_isSharing_15 {p : Nat → Nat} {v0 r0 : ml_M} : ∀ (fu : Nat) (l0 l0' : Nat) (hl0 : pt_r p l0 l0') (l1 l1' : Nat) (hl1 : pt_r p l1 l1') (l2 l2' : Int32) (hl2 : l2 = l2') (l3 l3' : Int32) (hl3 : l3 = l3') (m n : ml_M) (hq : pt_Q p v0 r0 m n) (bl0 : l0 ≤ ml_n m) (bl1 : l1 ≤ ml_n m), pt_T (pt_WV p v0 r0) (fX7_isSharing_15 fu l0 l1 l2 l3 m) (fX7_isSharing_15 fu l0' l1' l2' l3' n) := by
  intro fu
  induction fu with
  | zero => intro l0 l0' hl0 l1 l1' hl1 l2 l2' hl2 l3 l3' hl3 m n hq bl0 bl1; exact pt_none
  | succ fu ih =>
  intro l0 l0' hl0 l1 l1' hl1 l2 l2' hl2 l3 l3' hl3 m n hq bl0 bl1
  obtain ⟨rfl, dl0⟩ := hl0
  obtain ⟨rfl, dl1⟩ := hl1
  subst hl2
  subst hl3
  have hk15 := ih
  unfold fX7_isSharing_15
  exact (pt_ck (pt_kc hq (pt_rf dl0)) fun hc1782 => (pt_ite (pt_e2 (fun (a b : Int32) => b ≤ a) rfl (pt_I hq (pt_rf dl0) hc1782)) (fun _ => (zX7_isSharing_80   _ _ (pt_rf dl0) _ _ rfl _ _ hq bl0)) (fun _ => (pt_ck (pt_in hq (pt_rf dl1) rfl) fun hi1783 => (pt_leti (pt_Ia hq (pt_rf dl1) hi1783.1 rfl) fun x1784 => (pt_b1 (zX10_within _ _ rfl _ _ rfl _ _ (pt_e2 (fun (a b : Int32) => a - b) (pt_I hq (pt_rf dl0) hc1782) rfl) _ _ hq) fun r1785 => (pt_ite rfl (fun _ => (pt_retV rfl hq)) (fun _ => (pt_b1 (zX7_open _ _ (pt_rf dl0) _ _ rfl _ _ rfl _ _ hq bl0) fun r1786 => (pt_b1 (zX10_has _ _ rfl _ _ rfl _ _ hq) fun r1787 => (pt_ite rfl (fun _ => (pt_retV rfl hq)) (fun _ => (pt_letr (pt_R hq (pt_rf dl0) hc1782) (pt_Rb hq (pt_rf dl0) hc1782) fun a1788 d_a1788 b_a1788 => (pt_ck (pt_in hq (pt_rf d_a1788) rfl) fun hi1789 => (pt_letk rfl (Nat.le_refl _) (pt_sIa hq (pt_rf d_a1788) rfl rfl) fun m1790 n1791 em1792 hn1794 hq1793 => (pt_leti rfl fun x1795 => (hk15 _ _ (pt_rf dl0) _ _ (pt_rf dl1) _ _ rfl _ _ rfl _ _ hq1793 (Nat.le_trans bl0 hn1794) (Nat.le_trans bl1 hn1794))))))))))))))))))
theorem zX7_isSharing {p : Nat → Nat} {v0 r0 : ml_M} : ∀ (l0 l0' : Nat) (hl0 : pt_r p l0 l0') (l1 l1' : Nat) (hl1 : pt_r p l1 l1') (m n : ml_M) (hq : pt_Q p v0 r0 m n) (bl0 : l0 ≤ ml_n m) (bl1 : l1 ≤ ml_n m), pt_T (pt_WV p v0 r0) (fX7_isSharing l0 l1 m) (fX7_isSharing l0' l1' n) := by
  intro l0 l0' hl0 l1 l1' hl1 m n hq bl0 bl1
  obtain ⟨rfl, dl0⟩ := hl0
  obtain ⟨rfl, dl1⟩ := hl1
  unfold fX7_isSharing
  exact (pt_ck (pt_kc hq (pt_rf dl1)) fun hc1796 => (pt_ck (pt_kc hq (pt_rf dl0)) fun hc1797 => (pt_ite (pt_e2 (fun (a b : Int32) => a = b) (pt_len hq (pt_rf dl1)) (pt_I hq (pt_rf dl0) hc1797)) (fun _ => (zX7_isSharing_15  ml_fu _ _ (pt_rf dl0) _ _ (pt_rf dl1) _ _ rfl _ _ rfl _ _ hq bl0 bl1)) (fun _ => (pt_retV rfl hq)))))
theorem zX10_firstTrunkFor_2 {p : Nat → Nat} {v0 r0 : ml_M} : ∀ (fu : Nat) (l1 l1' : Nat) (hl1 : pt_r p l1 l1') (l2 l2' : Nat) (hl2 : pt_r p l2 l2') (l3 l3' : Int32) (hl3 : l3 = l3') (m n : ml_M) (hq : pt_Q p v0 r0 m n) (bl1 : l1 ≤ ml_n m) (bl2 : l2 ≤ ml_n m), pt_T pt_Wv (fX10_firstTrunkFor_2 fu l1 l2 l3 m) (fX10_firstTrunkFor_2 fu l1' l2' l3' n) := by
  intro fu
  induction fu with
  | zero => intro l1 l1' hl1 l2 l2' hl2 l3 l3' hl3 m n hq bl1 bl2; exact pt_none
  | succ fu ih =>
  intro l1 l1' hl1 l2 l2' hl2 l3 l3' hl3 m n hq bl1 bl2
  obtain ⟨rfl, dl1⟩ := hl1
  obtain ⟨rfl, dl2⟩ := hl2
  subst hl3
  have hk2 := ih
  unfold fX10_firstTrunkFor_2
  exact (pt_ck (pt_kc hq (pt_rf dl2)) fun hc1798 => (pt_ite (pt_e2 (fun (a b : Int32) => b ≤ a) rfl (pt_len hq (pt_rf dl2))) (fun _ => (pt_rtv rfl)) (fun _ => (pt_ck (pt_kc hq (pt_rf dl1)) fun hc1799 => (pt_ck (pt_in hq (pt_rf dl2) rfl) fun hi1800 => (pt_b1 (zX10_has _ _ (pt_I hq (pt_rf dl1) hc1799) _ _ (pt_Ia hq (pt_rf dl2) hi1800.1 rfl) _ _ hq) fun r1801 => (pt_ite rfl (fun _ => (hk2 _ _ (pt_rf dl1) _ _ (pt_rf dl2) _ _ rfl _ _ hq bl1 bl2)) (fun _ => (pt_rtv rfl)))))))))
theorem zX10_firstTrunkFor {p : Nat → Nat} {v0 r0 : ml_M} : ∀ (l0 l0' : Nat) (hl0 : pt_r p l0 l0') (l1 l1' : Nat) (hl1 : pt_r p l1 l1') (l2 l2' : Nat) (hl2 : pt_r p l2 l2') (m n : ml_M) (hq : pt_Q p v0 r0 m n) (bl0 : l0 ≤ ml_n m) (bl1 : l1 ≤ ml_n m) (bl2 : l2 ≤ ml_n m), pt_T pt_Wv (fX10_firstTrunkFor l0 l1 l2 m) (fX10_firstTrunkFor l0' l1' l2' n) := by
  intro l0 l0' hl0 l1 l1' hl1 l2 l2' hl2 m n hq bl0 bl1 bl2
  obtain ⟨rfl, dl0⟩ := hl0
  obtain ⟨rfl, dl1⟩ := hl1
  obtain ⟨rfl, dl2⟩ := hl2
  unfold fX10_firstTrunkFor
  exact (zX10_firstTrunkFor_2  ml_fu _ _ (pt_rf dl1) _ _ (pt_rf dl2) _ _ rfl _ _ hq bl1 bl2)
theorem zX10_moves_163 {p : Nat → Nat} {v0 r0 : ml_M} {k88 k88' : Nat → Int32 → Nat → Nat → Int32 → Int32 → ml_M → Option (Int32 × ml_M)} (hk88 : ∀ (l0 l0' : Nat) (hl0 : pt_r p l0 l0') (l2 l2' : Int32) (hl2 : l2 = l2') (l3 l3' : Nat) (hl3 : pt_r p l3 l3') (l4 l4' : Nat) (hl4 : pt_r p l4 l4') (l5 l5' : Int32) (hl5 : l5 = l5') (l6 l6' : Int32) (hl6 : l6 = l6') (m n : ml_M) (hq : pt_Q p v0 r0 m n) (bl0 : l0 ≤ ml_n m) (bl3 : l3 ≤ ml_n m) (bl4 : l4 ≤ ml_n m), pt_T (pt_WV p v0 r0) (k88 l0 l2 l3 l4 l5 l6 m) (k88' l0' l2' l3' l4' l5' l6' n)) : ∀ (l0 l0' : Nat) (hl0 : pt_r p l0 l0') (l2 l2' : Int32) (hl2 : l2 = l2') (l3 l3' : Nat) (hl3 : pt_r p l3 l3') (l4 l4' : Nat) (hl4 : pt_r p l4 l4') (l5 l5' : Int32) (hl5 : l5 = l5') (l6 l6' : Int32) (hl6 : l6 = l6') (m n : ml_M) (hq : pt_Q p v0 r0 m n) (bl0 : l0 ≤ ml_n m) (bl3 : l3 ≤ ml_n m) (bl4 : l4 ≤ ml_n m), pt_T (pt_WV p v0 r0) (fX10_moves_163 k88 l0 l2 l3 l4 l5 l6 m) (fX10_moves_163 k88' l0' l2' l3' l4' l5' l6' n) := by
  intro l0 l0' hl0 l2 l2' hl2 l3 l3' hl3 l4 l4' hl4 l5 l5' hl5 l6 l6' hl6 m n hq bl0 bl3 bl4
  obtain ⟨rfl, dl0⟩ := hl0
  subst hl2
  obtain ⟨rfl, dl3⟩ := hl3
  obtain ⟨rfl, dl4⟩ := hl4
  subst hl5
  subst hl6
  unfold fX10_moves_163
  exact (hk88 _ _ (pt_rf dl0) _ _ rfl _ _ (pt_rf dl3) _ _ (pt_rf dl4) _ _ rfl _ _ rfl _ _ hq bl0 bl3 bl4)
theorem zX10_moves_169 {p : Nat → Nat} {v0 r0 : ml_M} : ∀ (l0 l0' : Nat) (hl0 : pt_r p l0 l0') (l2 l2' : Int32) (hl2 : l2 = l2') (l4 l4' : Nat) (hl4 : pt_r p l4 l4') (l5 l5' : Int32) (hl5 : l5 = l5') (m n : ml_M) (hq : pt_Q p v0 r0 m n) (bl0 : l0 ≤ ml_n m) (bl4 : l4 ≤ ml_n m), pt_T (pt_WV p v0 r0) (fX10_moves_169 l0 l2 l4 l5 m) (fX10_moves_169 l0' l2' l4' l5' n) := by
  intro l0 l0' hl0 l2 l2' hl2 l4 l4' hl4 l5 l5' hl5 m n hq bl0 bl4
  obtain ⟨rfl, dl0⟩ := hl0
  subst hl2
  obtain ⟨rfl, dl4⟩ := hl4
  subst hl5
  unfold fX10_moves_169
  exact (pt_ck (pt_kc hq (pt_rf dl0)) fun hc1802 => (pt_letr (pt_R hq (pt_rf dl0) hc1802) (pt_Rb hq (pt_rf dl0) hc1802) fun a1803 d_a1803 b_a1803 => (pt_b2r hq (zJ7_copyOf_59c91 _ _ (pt_rf dl4) _ _ rfl _ _ (pt_ref hq) bl4) fun a1804 m1805 n1806 d_a1804 b_a1804 hn1808 hq1807 => (pt_ck (pt_kc hq1807 (pt_rf d_a1804)) fun hc1810 => (pt_ck (pt_in hq1807 (pt_rf d_a1803) rfl) fun hi1809 => (pt_letk rfl (Nat.le_refl _) (pt_sRa hq1807 (pt_rf d_a1803) rfl (pt_rf d_a1804) b_a1804) fun m1811 n1812 em1813 hn1815 hq1814 => (pt_retV rfl hq1814)))))))
theorem zX10_moves_88 {p : Nat → Nat} {v0 r0 : ml_M} : ∀ (fu : Nat) (l0 l0' : Nat) (hl0 : pt_r p l0 l0') (l2 l2' : Int32) (hl2 : l2 = l2') (l3 l3' : Nat) (hl3 : pt_r p l3 l3') (l4 l4' : Nat) (hl4 : pt_r p l4 l4') (l5 l5' : Int32) (hl5 : l5 = l5') (l6 l6' : Int32) (hl6 : l6 = l6') (m n : ml_M) (hq : pt_Q p v0 r0 m n) (bl0 : l0 ≤ ml_n m) (bl3 : l3 ≤ ml_n m) (bl4 : l4 ≤ ml_n m), pt_T (pt_WV p v0 r0) (fX10_moves_88 fu l0 l2 l3 l4 l5 l6 m) (fX10_moves_88 fu l0' l2' l3' l4' l5' l6' n) := by
  intro fu
  induction fu with
  | zero => intro l0 l0' hl0 l2 l2' hl2 l3 l3' hl3 l4 l4' hl4 l5 l5' hl5 l6 l6' hl6 m n hq bl0 bl3 bl4; exact pt_none
  | succ fu ih =>
  intro l0 l0' hl0 l2 l2' hl2 l3 l3' hl3 l4 l4' hl4 l5 l5' hl5 l6 l6' hl6 m n hq bl0 bl3 bl4
  obtain ⟨rfl, dl0⟩ := hl0
  subst hl2
  obtain ⟨rfl, dl3⟩ := hl3
  obtain ⟨rfl, dl4⟩ := hl4
  subst hl5
  subst hl6
  have hk88 := ih
  unfold fX10_moves_88
  exact (pt_ck (pt_kc hq (pt_rf dl0)) fun hc1816 => (pt_ite (pt_e2 (fun (a b : Int32) => b ≤ a) rfl (pt_I hq (pt_rf dl0) hc1816)) (fun _ => (zX10_moves_169   _ _ (pt_rf dl0) _ _ rfl _ _ (pt_rf dl4) _ _ rfl _ _ hq bl0 bl4)) (fun _ => (pt_letr (pt_R hq (pt_rf dl0) hc1816) (pt_Rb hq (pt_rf dl0) hc1816) fun a1817 d_a1817 b_a1817 => (pt_ck (pt_in hq (pt_rf d_a1817) rfl) fun hi1818 => pt_letr (pt_Ra hq (pt_rf d_a1817) hi1818.1 rfl) (pt_Rb hq (pt_rf d_a1817) hi1818.1) fun a1819 d_a1819 b_a1819 => (pt_ck (pt_kc hq (pt_rf d_a1819)) fun hc1820 => (pt_b1 (zX10_isTrunk _ _ (pt_rf dl0) _ _ (pt_I hq (pt_rf d_a1819) hc1820) _ _ hq bl0) fun r1821 => (pt_ite rfl (fun _ => (zX10_moves_163 hk88  _ _ (pt_rf dl0) _ _ rfl _ _ (pt_rf dl3) _ _ (pt_rf dl4) _ _ rfl _ _ rfl _ _ hq bl0 bl3 bl4)) (fun _ => (pt_ck (pt_in hq (pt_rf dl3) (pt_I hq (pt_rf d_a1819) hc1820)) fun hi1822 => (pt_b1 (zX10_has _ _ (pt_I hq (pt_rf d_a1819) hc1820) _ _ (pt_Ia hq (pt_rf dl3) hi1822.1 (pt_I hq (pt_rf d_a1819) hc1820)) _ _ hq) fun r1823 => (pt_ite rfl (fun _ => (pt_ck (pt_in hq (pt_rf dl4) rfl) fun hi1824 => (pt_letk rfl (Nat.le_refl _) (pt_sIa hq (pt_rf dl4) rfl rfl) fun m1825 n1826 em1827 hn1829 hq1828 => (pt_b1 (zX10_firstTrunkFor _ _ (pt_rf dl0) _ _ (pt_rf d_a1819) _ _ (pt_rf dl3) _ _ hq1828 (Nat.le_trans bl0 hn1829) (Nat.le_trans b_a1819 hn1829) (Nat.le_trans bl3 hn1829)) fun r1830 => (pt_ck (pt_in hq1828 (pt_rf dl4) rfl) fun hi1831 => (pt_letk rfl (Nat.le_refl _) (pt_sIa hq1828 (pt_rf dl4) rfl rfl) fun m1832 n1833 em1834 hn1836 hq1835 => (zX10_moves_163 hk88  _ _ (pt_rf dl0) _ _ rfl _ _ (pt_rf dl3) _ _ (pt_rf dl4) _ _ rfl _ _ rfl _ _ hq1835 (Nat.le_trans (Nat.le_trans bl0 hn1829) hn1836) (Nat.le_trans (Nat.le_trans bl3 hn1829) hn1836) (Nat.le_trans (Nat.le_trans bl4 hn1829) hn1836)))))))) (fun _ => (zX10_moves_163 hk88  _ _ (pt_rf dl0) _ _ rfl _ _ (pt_rf dl3) _ _ (pt_rf dl4) _ _ rfl _ _ rfl _ _ hq bl0 bl3 bl4))))))))))))))
theorem zX10_moves {p : Nat → Nat} {v0 r0 : ml_M} : ∀ (l0 l0' : Nat) (hl0 : pt_r p l0 l0') (l1 l1' : Int32) (hl1 : l1 = l1') (l2 l2' : Int32) (hl2 : l2 = l2') (m n : ml_M) (hq : pt_Q p v0 r0 m n) (bl0 : l0 ≤ ml_n m), pt_T (pt_WV p v0 r0) (fX10_moves l0 l1 l2 m) (fX10_moves l0' l1' l2' n) := by
  intro l0 l0' hl0 l1 l1' hl1 l2 l2' hl2 m n hq bl0
  obtain ⟨rfl, dl0⟩ := hl0
  subst hl1
  subst hl2
  unfold fX10_moves
  exact (pt_b1 (zX10_isRow _ _ rfl _ _ hq) fun r1837 => (pt_ite rfl (fun _ => (pt_retV rfl hq)) (fun _ => (pt_b1 (zX10_isRow _ _ rfl _ _ hq) fun r1838 => (pt_ite rfl (fun _ => (pt_retV rfl hq)) (fun _ => (pt_ck (pt_kc hq (pt_rf dl0)) fun hc1839 => (pt_letr (pt_R hq (pt_rf dl0) hc1839) (pt_Rb hq (pt_rf dl0) hc1839) fun a1840 d_a1840 b_a1840 => (pt_ck (pt_in hq (pt_rf d_a1840) rfl) fun hi1841 => pt_letr (pt_Ra hq (pt_rf d_a1840) hi1841.1 rfl) (pt_Rb hq (pt_rf d_a1840) hi1841.1) fun a1842 d_a1842 b_a1842 => (pt_ite (pt_nul hq.1 (pt_rf d_a1842)) (fun _ => (pt_b2 hq (zX10_found _ _ (pt_rf dl0) _ _ rfl _ _ (pt_ref hq) bl0) fun r1876 m1877 n1878 hn1880 hq1879 => (pt_retV rfl hq1879))) (fun _ => (pt_ck (pt_kc hq (pt_rf d_a1842)) fun hc1843 => (pt_letr (pt_R hq (pt_rf dl0) hc1839) (pt_Rb hq (pt_rf dl0) hc1839) fun a1844 d_a1844 b_a1844 => (pt_ck (pt_kc hq (pt_rf d_a1844)) fun hc1845 => (pt_ite (pt_e2 (fun (a b : Int32) => a = b) (pt_len hq (pt_rf d_a1842)) (pt_I hq (pt_rf d_a1844) hc1845)) (fun _ => (pt_b1m hq (zX10_refreshSharings _ _ (pt_rf dl0) _ _ (pt_ref hq) bl0) fun m1846 n1847 hn1849 hq1848 => (pt_ck (pt_kc hq1848 (pt_rf dl0)) fun hc1850 => (pt_letr (pt_R hq1848 (pt_rf dl0) hc1850) (pt_Rb hq1848 (pt_rf dl0) hc1850) fun a1851 d_a1851 b_a1851 => (pt_ck (pt_kc hq1848 (pt_rf d_a1851)) fun hc1852 => (pt_b2 hq1848 (zX7_isSharing _ _ (pt_rf d_a1851) _ _ (pt_rf d_a1842) _ _ (pt_ref hq1848) b_a1851 (Nat.le_trans b_a1842 hn1849)) fun r1853 m1854 n1855 hn1857 hq1856 => (pt_ite rfl (fun _ => (pt_ck (pt_kc hq1856 (pt_rf dl0)) fun hc1865 => (pt_b2 hq1856 (zX10_found _ _ (pt_rf dl0) _ _ rfl _ _ (pt_ref hq1856) (Nat.le_trans (Nat.le_trans bl0 hn1849) hn1857)) fun r1866 m1867 n1868 hn1870 hq1869 => (pt_retV rfl hq1869)))) (fun _ => (pt_ck (pt_kc hq1856 (pt_rf dl0)) fun hc1858 => (pt_ck (pt_lenc (pt_e2 (fun (a b : Int32) => a * b) rfl (pt_I hq1856 (pt_rf dl0) hc1858))) fun _ => (pt_al hq1856 (pt_e1 (fun (a : Int32) => a.toNatClampNeg) (pt_e2 (fun (a b : Int32) => a * b) rfl (pt_I hq1856 (pt_rf dl0) hc1858))) (pt_e1 (fun (a : Int32) => a.toNatClampNeg) (pt_e2 (fun (a b : Int32) => a * b) rfl (pt_I hq1856 (pt_rf dl0) hc1858))) fun a1859 m1860 n1861 d_a1859 b_a1859 hn1864 hc1862 hq1863 => (zX10_moves_88  ml_fu _ _ (pt_rf dl0) _ _ rfl _ _ (pt_rf d_a1842) _ _ (pt_rf d_a1859) _ _ rfl _ _ rfl _ _ hq1863 (Nat.le_trans (Nat.le_trans (Nat.le_trans bl0 hn1849) hn1857) hn1864) (Nat.le_trans (Nat.le_trans (Nat.le_trans b_a1842 hn1849) hn1857) hn1864) b_a1859)))))))))))) (fun _ => (pt_b2 hq (zX10_found _ _ (pt_rf dl0) _ _ rfl _ _ (pt_ref hq) bl0) fun r1871 m1872 n1873 hn1875 hq1874 => (pt_retV rfl hq1874))))))))))))))))))
theorem zX10_tell {p : Nat → Nat} {v0 r0 : ml_M} : ∀ (l0 l0' : Nat) (hl0 : pt_r p l0 l0') (l1 l1' : Int32) (hl1 : l1 = l1') (m n : ml_M) (hq : pt_Q p v0 r0 m n) (bl0 : l0 ≤ ml_n m), pt_T (pt_WV p v0 r0) (fX10_tell l0 l1 m) (fX10_tell l0' l1' n) := by
  intro l0 l0' hl0 l1 l1' hl1 m n hq bl0
  obtain ⟨rfl, dl0⟩ := hl0
  subst hl1
  unfold fX10_tell
  exact (pt_ck (pt_kc hq (pt_rf dl0)) fun hc1881 => (pt_letk rfl (Nat.le_refl _) (pt_sI hq (pt_rf dl0) rfl) fun m1882 n1883 em1884 hn1886 hq1885 => (pt_retV rfl hq1885)))
theorem zX10_at_36 {p : Nat → Nat} {v0 r0 : ml_M} : ∀ (l0 l0' : Nat) (hl0 : pt_r p l0 l0') (m n : ml_M) (hq : pt_Q p v0 r0 m n) (bl0 : l0 ≤ ml_n m), pt_T (pt_WV p v0 r0) (fX10_at_36 l0 m) (fX10_at_36 l0' n) := by
  intro l0 l0' hl0 m n hq bl0
  obtain ⟨rfl, dl0⟩ := hl0
  unfold fX10_at_36
  exact (pt_ck (pt_kc hq (pt_rf dl0)) fun hc1887 => (pt_b2 hq (zX10_found _ _ (pt_rf dl0) _ _ rfl _ _ (pt_ref hq) bl0) fun r1888 m1889 n1890 hn1892 hq1891 => (pt_retV rfl hq1891)))
theorem zX10_at {p : Nat → Nat} {v0 r0 : ml_M} : ∀ (l0 l0' : Nat) (hl0 : pt_r p l0 l0') (l1 l1' : Int32) (hl1 : l1 = l1') (l2 l2' : Int32) (hl2 : l2 = l2') (m n : ml_M) (hq : pt_Q p v0 r0 m n) (bl0 : l0 ≤ ml_n m), pt_T (pt_WV p v0 r0) (fX10_at l0 l1 l2 m) (fX10_at l0' l1' l2' n) := by
  intro l0 l0' hl0 l1 l1' hl1 l2 l2' hl2 m n hq bl0
  obtain ⟨rfl, dl0⟩ := hl0
  subst hl1
  subst hl2
  unfold fX10_at
  exact (pt_b1 (zX10_isRow _ _ rfl _ _ hq) fun r1893 => (pt_ite rfl (fun _ => (pt_retV rfl hq)) (fun _ => (pt_ck (pt_kc hq (pt_rf dl0)) fun hc1894 => (pt_letr (pt_R hq (pt_rf dl0) hc1894) (pt_Rb hq (pt_rf dl0) hc1894) fun a1895 d_a1895 b_a1895 => (pt_ck (pt_in hq (pt_rf d_a1895) rfl) fun hi1896 => pt_letr (pt_Ra hq (pt_rf d_a1895) hi1896.1 rfl) (pt_Rb hq (pt_rf d_a1895) hi1896.1) fun a1897 d_a1897 b_a1897 => (pt_ite (pt_nul hq.1 (pt_rf d_a1897)) (fun _ => (pt_b2 hq (zX10_found _ _ (pt_rf dl0) _ _ rfl _ _ (pt_ref hq) bl0) fun r1905 m1906 n1907 hn1909 hq1908 => (pt_retV rfl hq1908))) (fun _ => (pt_ite rfl (fun _ => (zX10_at_36   _ _ (pt_rf dl0) _ _ hq bl0)) (fun _ => (pt_ck (pt_kc hq (pt_rf d_a1897)) fun hc1898 => (pt_ite (pt_e2 (fun (a b : Int32) => a < b) rfl (pt_len hq (pt_rf d_a1897))) (fun _ => (pt_ck (pt_in hq (pt_rf d_a1897) rfl) fun hi1899 => (pt_b2 hq (zX10_tell _ _ (pt_rf dl0) _ _ (pt_Ia hq (pt_rf d_a1897) hi1899.1 rfl) _ _ (pt_ref hq) bl0) fun r1900 m1901 n1902 hn1904 hq1903 => (pt_retV rfl hq1903)))) (fun _ => (zX10_at_36   _ _ (pt_rf dl0) _ _ hq bl0))))))))))))))
theorem zX10_thingFact {p : Nat → Nat} {v0 r0 : ml_M} : ∀ (l0 l0' : Nat) (hl0 : pt_r p l0 l0') (l1 l1' : Int32) (hl1 : l1 = l1') (l2 l2' : Int32) (hl2 : l2 = l2') (m n : ml_M) (hq : pt_Q p v0 r0 m n) (bl0 : l0 ≤ ml_n m), pt_T pt_Wv (fX10_thingFact l0 l1 l2 m) (fX10_thingFact l0' l1' l2' n) := by
  intro l0 l0' hl0 l1 l1' hl1 l2 l2' hl2 m n hq bl0
  obtain ⟨rfl, dl0⟩ := hl0
  subst hl1
  subst hl2
  unfold fX10_thingFact
  exact (pt_ck (pt_kc hq (pt_rf dl0)) fun hc1910 => (pt_letr (pt_R hq (pt_rf dl0) hc1910) (pt_Rb hq (pt_rf dl0) hc1910) fun a1911 d_a1911 b_a1911 => (pt_ck (pt_in hq (pt_rf d_a1911) rfl) fun hi1912 => pt_letr (pt_Ra hq (pt_rf d_a1911) hi1912.1 rfl) (pt_Rb hq (pt_rf d_a1911) hi1912.1) fun a1913 d_a1913 b_a1913 => (pt_ite rfl (fun _ => (pt_ck (pt_kc hq (pt_rf d_a1913)) fun hc1914 => (pt_rtv (pt_I hq (pt_rf d_a1913) hc1914)))) (fun _ => (pt_ite rfl (fun _ => (pt_ck (pt_kc hq (pt_rf d_a1913)) fun hc1915 => (pt_rtv (pt_I hq (pt_rf d_a1913) hc1915)))) (fun _ => (pt_ite rfl (fun _ => (pt_ck (pt_kc hq (pt_rf d_a1913)) fun hc1916 => (pt_rtv (pt_I hq (pt_rf d_a1913) hc1916)))) (fun _ => (pt_ite rfl (fun _ => (pt_ck (pt_kc hq (pt_rf d_a1913)) fun hc1917 => (pt_rtv (pt_I hq (pt_rf d_a1913) hc1917)))) (fun _ => (pt_ck (pt_kc hq (pt_rf d_a1913)) fun hc1918 => (pt_ite (pt_e1 (fun (a : Int32) => a = 0) (pt_I hq (pt_rf d_a1913) hc1918)) (fun _ => (pt_rtv rfl)) (fun _ => (pt_rtv rfl)))))))))))))))
theorem zX10_told {p : Nat → Nat} {v0 r0 : ml_M} : ∀ (l0 l0' : Nat) (hl0 : pt_r p l0 l0') (l1 l1' : Int32) (hl1 : l1 = l1') (l2 l2' : Int32) (hl2 : l2 = l2') (m n : ml_M) (hq : pt_Q p v0 r0 m n) (bl0 : l0 ≤ ml_n m), pt_T (pt_WV p v0 r0) (fX10_told l0 l1 l2 m) (fX10_told l0' l1' l2' n) := by
  intro l0 l0' hl0 l1 l1' hl1 l2 l2' hl2 m n hq bl0
  obtain ⟨rfl, dl0⟩ := hl0
  subst hl1
  subst hl2
  unfold fX10_told
  exact (pt_ck (pt_kc hq (pt_rf dl0)) fun hc1919 => (pt_b1 (zX10_isThing _ _ (pt_rf dl0) _ _ rfl _ _ hq bl0) fun r1920 => (pt_ite rfl (fun _ => (pt_retV rfl hq)) (fun _ => (pt_b1 (zX10_within _ _ rfl _ _ rfl _ _ rfl _ _ hq) fun r1921 => (pt_ite rfl (fun _ => (pt_retV rfl hq)) (fun _ => (pt_b1 (zX10_thingFact _ _ (pt_rf dl0) _ _ rfl _ _ rfl _ _ hq bl0) fun r1922 => (pt_b2 hq (zX10_tell _ _ (pt_rf dl0) _ _ rfl _ _ (pt_ref hq) bl0) fun r1923 m1924 n1925 hn1927 hq1926 => (pt_retV rfl hq1926))))))))))
theorem zX10_thingsIn_28 {p : Nat → Nat} {v0 r0 : ml_M} {k4 k4' : Nat → Int32 → Int32 → Int32 → ml_M → Option Int32} (hk4 : ∀ (l0 l0' : Nat) (hl0 : pt_r p l0 l0') (l1 l1' : Int32) (hl1 : l1 = l1') (l2 l2' : Int32) (hl2 : l2 = l2') (l3 l3' : Int32) (hl3 : l3 = l3') (m n : ml_M) (hq : pt_Q p v0 r0 m n) (bl0 : l0 ≤ ml_n m), pt_T pt_Wv (k4 l0 l1 l2 l3 m) (k4' l0' l1' l2' l3' n)) : ∀ (l0 l0' : Nat) (hl0 : pt_r p l0 l0') (l1 l1' : Int32) (hl1 : l1 = l1') (l2 l2' : Int32) (hl2 : l2 = l2') (l3 l3' : Int32) (hl3 : l3 = l3') (m n : ml_M) (hq : pt_Q p v0 r0 m n) (bl0 : l0 ≤ ml_n m), pt_T pt_Wv (fX10_thingsIn_28 k4 l0 l1 l2 l3 m) (fX10_thingsIn_28 k4' l0' l1' l2' l3' n) := by
  intro l0 l0' hl0 l1 l1' hl1 l2 l2' hl2 l3 l3' hl3 m n hq bl0
  obtain ⟨rfl, dl0⟩ := hl0
  subst hl1
  subst hl2
  subst hl3
  unfold fX10_thingsIn_28
  exact (hk4 _ _ (pt_rf dl0) _ _ rfl _ _ rfl _ _ rfl _ _ hq bl0)
theorem zX10_thingsIn_4 {p : Nat → Nat} {v0 r0 : ml_M} : ∀ (fu : Nat) (l0 l0' : Nat) (hl0 : pt_r p l0 l0') (l1 l1' : Int32) (hl1 : l1 = l1') (l2 l2' : Int32) (hl2 : l2 = l2') (l3 l3' : Int32) (hl3 : l3 = l3') (m n : ml_M) (hq : pt_Q p v0 r0 m n) (bl0 : l0 ≤ ml_n m), pt_T pt_Wv (fX10_thingsIn_4 fu l0 l1 l2 l3 m) (fX10_thingsIn_4 fu l0' l1' l2' l3' n) := by
  intro fu
  induction fu with
  | zero => intro l0 l0' hl0 l1 l1' hl1 l2 l2' hl2 l3 l3' hl3 m n hq bl0; exact pt_none
  | succ fu ih =>
  intro l0 l0' hl0 l1 l1' hl1 l2 l2' hl2 l3 l3' hl3 m n hq bl0
  obtain ⟨rfl, dl0⟩ := hl0
  subst hl1
  subst hl2
  subst hl3
  have hk4 := ih
  unfold fX10_thingsIn_4
  exact (pt_ck (pt_kc hq (pt_rf dl0)) fun hc1928 => (pt_ite (pt_e2 (fun (a b : Int32) => b ≤ a) rfl (pt_I hq (pt_rf dl0) hc1928)) (fun _ => (pt_rtv rfl)) (fun _ => (pt_letr (pt_R hq (pt_rf dl0) hc1928) (pt_Rb hq (pt_rf dl0) hc1928) fun a1929 d_a1929 b_a1929 => (pt_ck (pt_in hq (pt_rf d_a1929) rfl) fun hi1930 => pt_letr (pt_Ra hq (pt_rf d_a1929) hi1930.1 rfl) (pt_Rb hq (pt_rf d_a1929) hi1930.1) fun a1931 d_a1931 b_a1931 => (pt_ck (pt_kc hq (pt_rf d_a1931)) fun hc1932 => (pt_ite (pt_e2 (fun (a b : Int32) => a = b) (pt_I hq (pt_rf d_a1931) hc1932) rfl) (fun _ => (zX10_thingsIn_28 hk4  _ _ (pt_rf dl0) _ _ rfl _ _ rfl _ _ rfl _ _ hq bl0)) (fun _ => (zX10_thingsIn_28 hk4  _ _ (pt_rf dl0) _ _ rfl _ _ rfl _ _ rfl _ _ hq bl0)))))))))
theorem zX10_thingsIn {p : Nat → Nat} {v0 r0 : ml_M} : ∀ (l0 l0' : Nat) (hl0 : pt_r p l0 l0') (l1 l1' : Int32) (hl1 : l1 = l1') (m n : ml_M) (hq : pt_Q p v0 r0 m n) (bl0 : l0 ≤ ml_n m), pt_T pt_Wv (fX10_thingsIn l0 l1 m) (fX10_thingsIn l0' l1' n) := by
  intro l0 l0' hl0 l1 l1' hl1 m n hq bl0
  obtain ⟨rfl, dl0⟩ := hl0
  subst hl1
  unfold fX10_thingsIn
  exact (zX10_thingsIn_4  ml_fu _ _ (pt_rf dl0) _ _ rfl _ _ rfl _ _ rfl _ _ hq bl0)
theorem zX10_trunkFact {p : Nat → Nat} {v0 r0 : ml_M} : ∀ (l0 l0' : Nat) (hl0 : pt_r p l0 l0') (l1 l1' : Int32) (hl1 : l1 = l1') (l2 l2' : Int32) (hl2 : l2 = l2') (m n : ml_M) (hq : pt_Q p v0 r0 m n) (bl0 : l0 ≤ ml_n m), pt_T pt_Wv (fX10_trunkFact l0 l1 l2 m) (fX10_trunkFact l0' l1' l2' n) := by
  intro l0 l0' hl0 l1 l1' hl1 l2 l2' hl2 m n hq bl0
  obtain ⟨rfl, dl0⟩ := hl0
  subst hl1
  subst hl2
  unfold fX10_trunkFact
  exact (pt_ck (pt_kc hq (pt_rf dl0)) fun hc1933 => (pt_letr (pt_R hq (pt_rf dl0) hc1933) (pt_Rb hq (pt_rf dl0) hc1933) fun a1934 d_a1934 b_a1934 => (pt_ck (pt_kc hq (pt_rf d_a1934)) fun hc1935 => (pt_letr (pt_R hq (pt_rf d_a1934) hc1935) (pt_Rb hq (pt_rf d_a1934) hc1935) fun a1936 d_a1936 b_a1936 => (pt_ck (pt_in hq (pt_rf d_a1936) rfl) fun hi1937 => pt_letr (pt_Ra hq (pt_rf d_a1936) hi1937.1 rfl) (pt_Rb hq (pt_rf d_a1936) hi1937.1) fun a1938 d_a1938 b_a1938 => (pt_ite rfl (fun _ => (pt_ck (pt_kc hq (pt_rf d_a1938)) fun hc1939 => (pt_rtv (pt_I hq (pt_rf d_a1938) hc1939)))) (fun _ => (pt_ite rfl (fun _ => (pt_ck (pt_kc hq (pt_rf d_a1938)) fun hc1940 => (pt_rtv (pt_I hq (pt_rf d_a1938) hc1940)))) (fun _ => (pt_ite rfl (fun _ => (pt_ck (pt_kc hq (pt_rf d_a1938)) fun hc1941 => (pt_rtv (pt_I hq (pt_rf d_a1938) hc1941)))) (fun _ => (pt_b1 (zX10_thingsIn _ _ (pt_rf dl0) _ _ rfl _ _ hq bl0) fun r1942 => (pt_rtv rfl)))))))))))))
theorem zX10_trunk {p : Nat → Nat} {v0 r0 : ml_M} : ∀ (l0 l0' : Nat) (hl0 : pt_r p l0 l0') (l1 l1' : Int32) (hl1 : l1 = l1') (l2 l2' : Int32) (hl2 : l2 = l2') (m n : ml_M) (hq : pt_Q p v0 r0 m n) (bl0 : l0 ≤ ml_n m), pt_T (pt_WV p v0 r0) (fX10_trunk l0 l1 l2 m) (fX10_trunk l0' l1' l2' n) := by
  intro l0 l0' hl0 l1 l1' hl1 l2 l2' hl2 m n hq bl0
  obtain ⟨rfl, dl0⟩ := hl0
  subst hl1
  subst hl2
  unfold fX10_trunk
  exact (pt_ck (pt_kc hq (pt_rf dl0)) fun hc1943 => (pt_b1 (zX10_isTrunk _ _ (pt_rf dl0) _ _ rfl _ _ hq bl0) fun r1944 => (pt_ite rfl (fun _ => (pt_retV rfl hq)) (fun _ => (pt_b1 (zX10_within _ _ rfl _ _ rfl _ _ rfl _ _ hq) fun r1945 => (pt_ite rfl (fun _ => (pt_retV rfl hq)) (fun _ => (pt_b1 (zX10_trunkFact _ _ (pt_rf dl0) _ _ rfl _ _ rfl _ _ hq bl0) fun r1946 => (pt_b2 hq (zX10_tell _ _ (pt_rf dl0) _ _ rfl _ _ (pt_ref hq) bl0) fun r1947 m1948 n1949 hn1951 hq1950 => (pt_retV rfl hq1950))))))))))
theorem zX0_init {p : Nat → Nat} {v0 r0 : ml_M} : ∀ (l0 l0' : Nat) (hl0 : pt_r p l0 l0') (l1 l1' : Int32) (hl1 : l1 = l1') (l2 l2' : Int32) (hl2 : l2 = l2') (l3 l3' : Int32) (hl3 : l3 = l3') (l4 l4' : Int32) (hl4 : l4 = l4') (m n : ml_M) (hq : pt_Q p v0 r0 m n) (bl0 : l0 ≤ ml_n m), pt_T (pt_WM p v0 r0) (fX0_init l0 l1 l2 l3 l4 m) (fX0_init l0' l1' l2' l3' l4' n) := by
  intro l0 l0' hl0 l1 l1' hl1 l2 l2' hl2 l3 l3' hl3 l4 l4' hl4 m n hq bl0
  obtain ⟨rfl, dl0⟩ := hl0
  subst hl1
  subst hl2
  subst hl3
  subst hl4
  unfold fX0_init
  exact (pt_ck (pt_nzr (pt_rf dl0)) fun _ => (pt_ck (pt_kc hq (pt_rf dl0)) fun hc1952 => (pt_letk rfl (Nat.le_refl _) (pt_sI hq (pt_rf dl0) rfl) fun m1953 n1954 em1955 hn1957 hq1956 => (pt_letk rfl (Nat.le_refl _) (pt_sI hq1956 (pt_rf dl0) rfl) fun m1958 n1959 em1960 hn1962 hq1961 => (pt_letk rfl (Nat.le_refl _) (pt_sI hq1961 (pt_rf dl0) rfl) fun m1963 n1964 em1965 hn1967 hq1966 => (pt_letk rfl (Nat.le_refl _) (pt_sI hq1966 (pt_rf dl0) rfl) fun m1968 n1969 em1970 hn1972 hq1971 => (pt_retM hq1971)))))))
theorem zX10_bit {p : Nat → Nat} {v0 r0 : ml_M} : ∀ (l0 l0' : Nat) (hl0 : pt_r p l0 l0') (l1 l1' : Int32) (hl1 : l1 = l1') (l2 l2' : Int32) (hl2 : l2 = l2') (l3 l3' : Int32) (hl3 : l3 = l3') (l4 l4' : Int32) (hl4 : l4 = l4') (m n : ml_M) (hq : pt_Q p v0 r0 m n) (bl0 : l0 ≤ ml_n m), pt_T (pt_WV p v0 r0) (fX10_bit l0 l1 l2 l3 l4 m) (fX10_bit l0' l1' l2' l3' l4' n) := by
  intro l0 l0' hl0 l1 l1' hl1 l2 l2' hl2 l3 l3' hl3 l4 l4' hl4 m n hq bl0
  obtain ⟨rfl, dl0⟩ := hl0
  subst hl1
  subst hl2
  subst hl3
  subst hl4
  unfold fX10_bit
  exact (pt_b1 (zX10_within _ _ rfl _ _ rfl _ _ rfl _ _ hq) fun r1973 => (pt_ite rfl (fun _ => (pt_retV rfl hq)) (fun _ => (pt_b1 (zX10_within _ _ rfl _ _ rfl _ _ rfl _ _ hq) fun r1974 => (pt_ite rfl (fun _ => (pt_retV rfl hq)) (fun _ => (pt_b1 (zX10_within _ _ rfl _ _ rfl _ _ rfl _ _ hq) fun r1975 => (pt_ite rfl (fun _ => (pt_retV rfl hq)) (fun _ => (pt_b1 (zX10_within _ _ rfl _ _ rfl _ _ rfl _ _ hq) fun r1976 => (pt_ite rfl (fun _ => (pt_retV rfl hq)) (fun _ => (pt_ck (pt_kc hq (pt_rf dl0)) fun hc1977 => (pt_ite (pt_e2 (fun (a b : Int32) => a < b) (pt_I hq (pt_rf dl0) hc1977) rfl) (fun _ => (pt_letr (pt_R hq (pt_rf dl0) hc1977) (pt_Rb hq (pt_rf dl0) hc1977) fun a1978 d_a1978 b_a1978 => (pt_al hq rfl rfl fun a1979 m1980 n1981 d_a1979 b_a1979 hn1984 hc1982 hq1983 => (pt_b1m hq1983 (zX0_init _ _ (pt_rf d_a1979) _ _ rfl _ _ rfl _ _ rfl _ _ rfl _ _ (pt_ref hq1983) b_a1979) fun m1985 n1986 hn1988 hq1987 => (pt_ck (pt_kc hq1987 (pt_rf d_a1979)) fun hc1990 => (pt_ck (pt_in hq1987 (pt_rf d_a1978) (pt_I hq (pt_rf dl0) hc1977)) fun hi1989 => (pt_letk rfl (Nat.le_refl _) (pt_sRa hq1987 (pt_rf d_a1978) (pt_I hq (pt_rf dl0) hc1977) (pt_rf d_a1979) (Nat.le_trans b_a1979 hn1988)) fun m1991 n1992 em1993 hn1995 hq1994 => (pt_ck (pt_kc hq1994 (pt_rf dl0)) fun hc1996 => (pt_letr (pt_R hq1994 (pt_rf dl0) hc1996) (pt_Rb hq1994 (pt_rf dl0) hc1996) fun a1997 d_a1997 b_a1997 => (pt_ck (pt_kc hq1994 (pt_rf d_a1997)) fun hc1998 => (pt_letk rfl (Nat.le_refl _) (pt_sI hq1994 (pt_rf d_a1997) rfl) fun m1999 n2000 em2001 hn2003 hq2002 => (pt_letk rfl (Nat.le_refl _) (pt_sI hq2002 (pt_rf dl0) (pt_e2 (fun (a b : Int32) => a + b) (pt_I hq2002 (pt_rf dl0) (ml_kk em2001 hc1996)) rfl)) fun m2004 n2005 em2006 hn2008 hq2007 => (pt_retV (pt_I hq2002 (pt_rf dl0) (ml_kk em2001 hc1996)) hq2007))))))))))))) (fun _ => (pt_retV rfl hq))))))))))))))))
theorem zX0_meets {p : Nat → Nat} {v0 r0 : ml_M} : ∀ (l0 l0' : Nat) (hl0 : pt_r p l0 l0') (l1 l1' : Nat) (hl1 : pt_r p l1 l1') (m n : ml_M) (hq : pt_Q p v0 r0 m n) (bl0 : l0 ≤ ml_n m) (bl1 : l1 ≤ ml_n m), pt_T pt_Wv (fX0_meets l0 l1 m) (fX0_meets l0' l1' n) := by
  intro l0 l0' hl0 l1 l1' hl1 m n hq bl0 bl1
  obtain ⟨rfl, dl0⟩ := hl0
  obtain ⟨rfl, dl1⟩ := hl1
  unfold fX0_meets
  exact (pt_ck (pt_kc hq (pt_rf dl0)) fun hc2009 => (pt_ck (pt_kc hq (pt_rf dl1)) fun hc2010 => (pt_ite (pt_e2 (fun (a b : Int32) => a = b) (pt_e2 (fun (a b : Int32) => a + b) (pt_I hq (pt_rf dl0) hc2009) (pt_I hq (pt_rf dl1) hc2010)) rfl) (fun _ => (pt_ite (pt_e2 (fun (a b : Int32) => a = b) (pt_I hq (pt_rf dl0) hc2009) (pt_I hq (pt_rf dl1) hc2010)) (fun _ => (pt_ite (pt_e2 (fun (a b : Int32) => a = b) (pt_I hq (pt_rf dl0) hc2009) (pt_I hq (pt_rf dl1) hc2010)) (fun _ => (pt_rtv rfl)) (fun _ => (pt_rtv rfl)))) (fun _ => (pt_rtv rfl)))) (fun _ => (pt_rtv rfl)))))
theorem zX4_slot {p : Nat → Nat} {v0 r0 : ml_M} : ∀ (l0 l0' : Int32) (hl0 : l0 = l0') (l1 l1' : Int32) (hl1 : l1 = l1') (m n : ml_M) (hq : pt_Q p v0 r0 m n), pt_T pt_Wv (fX4_slot l0 l1 m) (fX4_slot l0' l1' n) := by
  intro l0 l0' hl0 l1 l1' hl1 m n hq
  subst hl0
  subst hl1
  unfold fX4_slot
  exact (pt_rtv rfl)
theorem zX4_follow_165 {p : Nat → Nat} {v0 r0 : ml_M} {k36 k36' : Nat → Int32 → Int32 → Int32 → Int32 → ml_M → Option ml_M} (hk36 : ∀ (l0 l0' : Nat) (hl0 : pt_r p l0 l0') (l1 l1' : Int32) (hl1 : l1 = l1') (l2 l2' : Int32) (hl2 : l2 = l2') (l3 l3' : Int32) (hl3 : l3 = l3') (l4 l4' : Int32) (hl4 : l4 = l4') (m n : ml_M) (hq : pt_Q p v0 r0 m n) (bl0 : l0 ≤ ml_n m), pt_T (pt_WM p v0 r0) (k36 l0 l1 l2 l3 l4 m) (k36' l0' l1' l2' l3' l4' n)) : ∀ (l0 l0' : Nat) (hl0 : pt_r p l0 l0') (l1 l1' : Int32) (hl1 : l1 = l1') (l2 l2' : Int32) (hl2 : l2 = l2') (l3 l3' : Int32) (hl3 : l3 = l3') (l4 l4' : Int32) (hl4 : l4 = l4') (m n : ml_M) (hq : pt_Q p v0 r0 m n) (bl0 : l0 ≤ ml_n m), pt_T (pt_WM p v0 r0) (fX4_follow_165 k36 l0 l1 l2 l3 l4 m) (fX4_follow_165 k36' l0' l1' l2' l3' l4' n) := by
  intro l0 l0' hl0 l1 l1' hl1 l2 l2' hl2 l3 l3' hl3 l4 l4' hl4 m n hq bl0
  obtain ⟨rfl, dl0⟩ := hl0
  subst hl1
  subst hl2
  subst hl3
  subst hl4
  unfold fX4_follow_165
  exact (hk36 _ _ (pt_rf dl0) _ _ rfl _ _ rfl _ _ rfl _ _ rfl _ _ hq bl0)
theorem zX4_follow_114 {p : Nat → Nat} {v0 r0 : ml_M} {k36 k36' : Nat → Int32 → Int32 → Int32 → Int32 → ml_M → Option ml_M} (hk36 : ∀ (l0 l0' : Nat) (hl0 : pt_r p l0 l0') (l1 l1' : Int32) (hl1 : l1 = l1') (l2 l2' : Int32) (hl2 : l2 = l2') (l3 l3' : Int32) (hl3 : l3 = l3') (l4 l4' : Int32) (hl4 : l4 = l4') (m n : ml_M) (hq : pt_Q p v0 r0 m n) (bl0 : l0 ≤ ml_n m), pt_T (pt_WM p v0 r0) (k36 l0 l1 l2 l3 l4 m) (k36' l0' l1' l2' l3' l4' n)) : ∀ (l0 l0' : Nat) (hl0 : pt_r p l0 l0') (l1 l1' : Int32) (hl1 : l1 = l1') (l2 l2' : Int32) (hl2 : l2 = l2') (l3 l3' : Int32) (hl3 : l3 = l3') (l4 l4' : Int32) (hl4 : l4 = l4') (l5 l5' : Int32) (hl5 : l5 = l5') (l6 l6' : Int32) (hl6 : l6 = l6') (m n : ml_M) (hq : pt_Q p v0 r0 m n) (bl0 : l0 ≤ ml_n m), pt_T (pt_WM p v0 r0) (fX4_follow_114 k36 l0 l1 l2 l3 l4 l5 l6 m) (fX4_follow_114 k36' l0' l1' l2' l3' l4' l5' l6' n) := by
  intro l0 l0' hl0 l1 l1' hl1 l2 l2' hl2 l3 l3' hl3 l4 l4' hl4 l5 l5' hl5 l6 l6' hl6 m n hq bl0
  obtain ⟨rfl, dl0⟩ := hl0
  subst hl1
  subst hl2
  subst hl3
  subst hl4
  subst hl5
  subst hl6
  unfold fX4_follow_114
  exact (pt_ck (pt_kc hq (pt_rf dl0)) fun hc2011 => (pt_letr (pt_R hq (pt_rf dl0) hc2011) (pt_Rb hq (pt_rf dl0) hc2011) fun a2012 d_a2012 b_a2012 => (pt_ck (pt_in hq (pt_rf d_a2012) rfl) fun hi2013 => (pt_letk rfl (Nat.le_refl _) (pt_sIa hq (pt_rf d_a2012) rfl rfl) fun m2014 n2015 em2016 hn2018 hq2017 => (pt_letr (pt_R hq2017 (pt_rf dl0) (ml_kk em2016 hc2011)) (pt_Rb hq2017 (pt_rf dl0) (ml_kk em2016 hc2011)) fun a2019 d_a2019 b_a2019 => (pt_letr (pt_R hq2017 (pt_rf dl0) (ml_kk em2016 hc2011)) (pt_Rb hq2017 (pt_rf dl0) (ml_kk em2016 hc2011)) fun a2020 d_a2020 b_a2020 => (pt_ck (pt_in hq2017 (pt_rf d_a2020) rfl) fun hi2021 => (pt_ck (pt_in hq2017 (pt_rf d_a2019) rfl) fun hi2022 => (pt_letk rfl (Nat.le_refl _) (pt_sIa hq2017 (pt_rf d_a2019) rfl (pt_Ia hq2017 (pt_rf d_a2020) hi2021.1 rfl)) fun m2023 n2024 em2025 hn2027 hq2026 => (zX4_follow_165 hk36  _ _ (pt_rf dl0) _ _ rfl _ _ rfl _ _ rfl _ _ rfl _ _ hq2026 (Nat.le_trans (Nat.le_trans bl0 hn2018) hn2027)))))))))))
theorem zX4_follow_91 {p : Nat → Nat} {v0 r0 : ml_M} {k36 k36' : Nat → Int32 → Int32 → Int32 → Int32 → ml_M → Option ml_M} (hk36 : ∀ (l0 l0' : Nat) (hl0 : pt_r p l0 l0') (l1 l1' : Int32) (hl1 : l1 = l1') (l2 l2' : Int32) (hl2 : l2 = l2') (l3 l3' : Int32) (hl3 : l3 = l3') (l4 l4' : Int32) (hl4 : l4 = l4') (m n : ml_M) (hq : pt_Q p v0 r0 m n) (bl0 : l0 ≤ ml_n m), pt_T (pt_WM p v0 r0) (k36 l0 l1 l2 l3 l4 m) (k36' l0' l1' l2' l3' l4' n)) : ∀ (l0 l0' : Nat) (hl0 : pt_r p l0 l0') (l1 l1' : Int32) (hl1 : l1 = l1') (l2 l2' : Int32) (hl2 : l2 = l2') (l3 l3' : Int32) (hl3 : l3 = l3') (l4 l4' : Int32) (hl4 : l4 = l4') (l5 l5' : Int32) (hl5 : l5 = l5') (t0 t0' : Int32) (ht0 : t0 = t0') (t1 t1' : Int32) (ht1 : t1 = t1') (m n : ml_M) (hq : pt_Q p v0 r0 m n) (bl0 : l0 ≤ ml_n m), pt_T (pt_WM p v0 r0) (fX4_follow_91 k36 l0 l1 l2 l3 l4 l5 t0 t1 m) (fX4_follow_91 k36' l0' l1' l2' l3' l4' l5' t0' t1' n) := by
  intro l0 l0' hl0 l1 l1' hl1 l2 l2' hl2 l3 l3' hl3 l4 l4' hl4 l5 l5' hl5 t0 t0' ht0 t1 t1' ht1 m n hq bl0
  obtain ⟨rfl, dl0⟩ := hl0
  subst hl1
  subst hl2
  subst hl3
  subst hl4
  subst hl5
  subst ht0
  subst ht1
  unfold fX4_follow_91
  exact (pt_leti rfl fun x2028 => (pt_ck (pt_kc hq (pt_rf dl0)) fun hc2029 => (pt_letr (pt_R hq (pt_rf dl0) hc2029) (pt_Rb hq (pt_rf dl0) hc2029) fun a2030 d_a2030 b_a2030 => (pt_ck (pt_in hq (pt_rf d_a2030) rfl) fun hi2031 => (pt_ite (pt_e1 (fun (a : Int32) => a = 0) (pt_Ia hq (pt_rf d_a2030) hi2031.1 rfl)) (fun _ => (zX4_follow_114 hk36  _ _ (pt_rf dl0) _ _ rfl _ _ rfl _ _ rfl _ _ rfl _ _ rfl _ _ rfl _ _ hq bl0)) (fun _ => (pt_letr (pt_R hq (pt_rf dl0) hc2029) (pt_Rb hq (pt_rf dl0) hc2029) fun a2032 d_a2032 b_a2032 => (pt_ck (pt_in hq (pt_rf d_a2032) rfl) fun hi2033 => (pt_ite (pt_e2 (fun (a b : Int32) => b ≤ a) rfl (pt_Ia hq (pt_rf d_a2032) hi2033.1 rfl)) (fun _ => (pt_letr (pt_R hq (pt_rf dl0) hc2029) (pt_Rb hq (pt_rf dl0) hc2029) fun a2034 d_a2034 b_a2034 => (pt_ck (pt_in hq (pt_rf d_a2034) rfl) fun hi2035 => (pt_ite (pt_e2 (fun (a b : Int32) => a = b) rfl (pt_Ia hq (pt_rf d_a2034) hi2035.1 rfl)) (fun _ => (pt_letr (pt_R hq (pt_rf dl0) hc2029) (pt_Rb hq (pt_rf dl0) hc2029) fun a2036 d_a2036 b_a2036 => (pt_ck (pt_in hq (pt_rf d_a2036) rfl) fun hi2037 => (pt_letr (pt_R hq (pt_rf dl0) hc2029) (pt_Rb hq (pt_rf dl0) hc2029) fun a2038 d_a2038 b_a2038 => (pt_ck (pt_in hq (pt_rf d_a2038) rfl) fun hi2039 => (pt_ck (pt_in hq (pt_rf d_a2036) rfl) fun hi2040 => (pt_letk rfl (Nat.le_refl _) (pt_sIa hq (pt_rf d_a2036) rfl (pt_e2 (fun (a b : Int32) => a + b) (pt_Ia hq (pt_rf d_a2036) hi2037.1 rfl) (pt_Ia hq (pt_rf d_a2038) hi2039.1 rfl))) fun m2041 n2042 em2043 hn2045 hq2044 => (zX4_follow_165 hk36  _ _ (pt_rf dl0) _ _ rfl _ _ rfl _ _ rfl _ _ rfl _ _ hq2044 (Nat.le_trans bl0 hn2045))))))))) (fun _ => (zX4_follow_165 hk36  _ _ (pt_rf dl0) _ _ rfl _ _ rfl _ _ rfl _ _ rfl _ _ hq bl0)))))) (fun _ => (zX4_follow_114 hk36  _ _ (pt_rf dl0) _ _ rfl _ _ rfl _ _ rfl _ _ rfl _ _ rfl _ _ rfl _ _ hq bl0)))))))))))
theorem zX4_follow_36 {p : Nat → Nat} {v0 r0 : ml_M} : ∀ (fu : Nat) (l0 l0' : Nat) (hl0 : pt_r p l0 l0') (l1 l1' : Int32) (hl1 : l1 = l1') (l2 l2' : Int32) (hl2 : l2 = l2') (l3 l3' : Int32) (hl3 : l3 = l3') (l4 l4' : Int32) (hl4 : l4 = l4') (m n : ml_M) (hq : pt_Q p v0 r0 m n) (bl0 : l0 ≤ ml_n m), pt_T (pt_WM p v0 r0) (fX4_follow_36 fu l0 l1 l2 l3 l4 m) (fX4_follow_36 fu l0' l1' l2' l3' l4' n) := by
  intro fu
  induction fu with
  | zero => intro l0 l0' hl0 l1 l1' hl1 l2 l2' hl2 l3 l3' hl3 l4 l4' hl4 m n hq bl0; exact pt_none
  | succ fu ih =>
  intro l0 l0' hl0 l1 l1' hl1 l2 l2' hl2 l3 l3' hl3 l4 l4' hl4 m n hq bl0
  obtain ⟨rfl, dl0⟩ := hl0
  subst hl1
  subst hl2
  subst hl3
  subst hl4
  have hk36 := ih
  unfold fX4_follow_36
  exact (pt_ck (pt_kc hq (pt_rf dl0)) fun hc2046 => (pt_ite (pt_e2 (fun (a b : Int32) => b ≤ a) rfl (pt_I hq (pt_rf dl0) hc2046)) (fun _ => (pt_retM hq)) (fun _ => (pt_b1 (zX10_has _ _ rfl _ _ rfl _ _ hq) fun r2047 => (pt_ite rfl (fun _ => (pt_b1 (zX4_slot _ _ rfl _ _ rfl _ _ hq) fun r2048 => (pt_letr (pt_R hq (pt_rf dl0) hc2046) (pt_Rb hq (pt_rf dl0) hc2046) fun a2049 d_a2049 b_a2049 => (pt_ck (pt_in hq (pt_rf d_a2049) rfl) fun hi2050 => (pt_b1 (zX10_has _ _ rfl _ _ rfl _ _ hq) fun r2051 => (pt_ite rfl (fun _ => (zX4_follow_91 hk36  _ _ (pt_rf dl0) _ _ rfl _ _ rfl _ _ rfl _ _ rfl _ _ rfl _ _ rfl _ _ (pt_Ia hq (pt_rf d_a2049) hi2050.1 rfl) _ _ hq bl0)) (fun _ => (zX4_follow_91 hk36  _ _ (pt_rf dl0) _ _ rfl _ _ rfl _ _ rfl _ _ rfl _ _ rfl _ _ rfl _ _ (pt_Ia hq (pt_rf d_a2049) hi2050.1 rfl) _ _ hq bl0)))))))) (fun _ => (zX4_follow_165 hk36  _ _ (pt_rf dl0) _ _ rfl _ _ rfl _ _ rfl _ _ rfl _ _ hq bl0)))))))
theorem zX4_follow_33 {p : Nat → Nat} {v0 r0 : ml_M} : ∀ (l0 l0' : Nat) (hl0 : pt_r p l0 l0') (l1 l1' : Int32) (hl1 : l1 = l1') (l2 l2' : Int32) (hl2 : l2 = l2') (l3 l3' : Int32) (hl3 : l3 = l3') (m n : ml_M) (hq : pt_Q p v0 r0 m n) (bl0 : l0 ≤ ml_n m), pt_T (pt_WM p v0 r0) (fX4_follow_33 l0 l1 l2 l3 m) (fX4_follow_33 l0' l1' l2' l3' n) := by
  intro l0 l0' hl0 l1 l1' hl1 l2 l2' hl2 l3 l3' hl3 m n hq bl0
  obtain ⟨rfl, dl0⟩ := hl0
  subst hl1
  subst hl2
  subst hl3
  unfold fX4_follow_33
  exact (zX4_follow_36  ml_fu _ _ (pt_rf dl0) _ _ rfl _ _ rfl _ _ rfl _ _ rfl _ _ hq bl0)
theorem zX4_follow {p : Nat → Nat} {v0 r0 : ml_M} : ∀ (l0 l0' : Nat) (hl0 : pt_r p l0 l0') (l1 l1' : Int32) (hl1 : l1 = l1') (l2 l2' : Int32) (hl2 : l2 = l2') (l3 l3' : Int32) (hl3 : l3 = l3') (m n : ml_M) (hq : pt_Q p v0 r0 m n) (bl0 : l0 ≤ ml_n m), pt_T (pt_WM p v0 r0) (fX4_follow l0 l1 l2 l3 m) (fX4_follow l0' l1' l2' l3' n) := by
  intro l0 l0' hl0 l1 l1' hl1 l2 l2' hl2 l3 l3' hl3 m n hq bl0
  obtain ⟨rfl, dl0⟩ := hl0
  subst hl1
  subst hl2
  subst hl3
  unfold fX4_follow
  exact (pt_ck (pt_kc hq (pt_rf dl0)) fun hc2052 => (pt_letr (pt_R hq (pt_rf dl0) hc2052) (pt_Rb hq (pt_rf dl0) hc2052) fun a2053 d_a2053 b_a2053 => (pt_ck (pt_in hq (pt_rf d_a2053) rfl) fun hi2054 => (pt_letk rfl (Nat.le_refl _) (pt_sIa hq (pt_rf d_a2053) rfl rfl) fun m2055 n2056 em2057 hn2059 hq2058 => (pt_letr (pt_R hq2058 (pt_rf dl0) (ml_kk em2057 hc2052)) (pt_Rb hq2058 (pt_rf dl0) (ml_kk em2057 hc2052)) fun a2060 d_a2060 b_a2060 => (pt_ck (pt_in hq2058 (pt_rf d_a2060) rfl) fun hi2061 => (pt_letk rfl (Nat.le_refl _) (pt_sIa hq2058 (pt_rf d_a2060) rfl rfl) fun m2062 n2063 em2064 hn2066 hq2065 => (pt_ite (pt_e2 (fun (a b : Int32) => a = b) rfl (pt_e2 (fun (a b : Int32) => a - b) (pt_e2 (fun (a b : Int32) => a <<< (b &&& 31)) rfl (pt_I hq2065 (pt_rf dl0) (ml_kk em2064 (ml_kk em2057 hc2052)))) rfl)) (fun _ => (pt_letr (pt_R hq2065 (pt_rf dl0) (ml_kk em2064 (ml_kk em2057 hc2052))) (pt_Rb hq2065 (pt_rf dl0) (ml_kk em2064 (ml_kk em2057 hc2052))) fun a2067 d_a2067 b_a2067 => (pt_ck (pt_in hq2065 (pt_rf d_a2067) rfl) fun hi2068 => (pt_letk rfl (Nat.le_refl _) (pt_sIa hq2065 (pt_rf d_a2067) rfl rfl) fun m2069 n2070 em2071 hn2073 hq2072 => (zX4_follow_33   _ _ (pt_rf dl0) _ _ rfl _ _ rfl _ _ rfl _ _ hq2072 (Nat.le_trans (Nat.le_trans (Nat.le_trans bl0 hn2059) hn2066) hn2073)))))) (fun _ => (zX4_follow_33   _ _ (pt_rf dl0) _ _ rfl _ _ rfl _ _ rfl _ _ hq2065 (Nat.le_trans (Nat.le_trans bl0 hn2059) hn2066)))))))))))
theorem zX4_nextOf_71 {p : Nat → Nat} {v0 r0 : ml_M} {k3 k3' : Nat → Int32 → Int32 → Int32 → Int32 → ml_M → Option Int32} (hk3 : ∀ (l0 l0' : Nat) (hl0 : pt_r p l0 l0') (l1 l1' : Int32) (hl1 : l1 = l1') (l2 l2' : Int32) (hl2 : l2 = l2') (l3 l3' : Int32) (hl3 : l3 = l3') (l4 l4' : Int32) (hl4 : l4 = l4') (m n : ml_M) (hq : pt_Q p v0 r0 m n) (bl0 : l0 ≤ ml_n m), pt_T pt_Wv (k3 l0 l1 l2 l3 l4 m) (k3' l0' l1' l2' l3' l4' n)) : ∀ (l0 l0' : Nat) (hl0 : pt_r p l0 l0') (l1 l1' : Int32) (hl1 : l1 = l1') (l2 l2' : Int32) (hl2 : l2 = l2') (l3 l3' : Int32) (hl3 : l3 = l3') (l4 l4' : Int32) (hl4 : l4 = l4') (m n : ml_M) (hq : pt_Q p v0 r0 m n) (bl0 : l0 ≤ ml_n m), pt_T pt_Wv (fX4_nextOf_71 k3 l0 l1 l2 l3 l4 m) (fX4_nextOf_71 k3' l0' l1' l2' l3' l4' n) := by
  intro l0 l0' hl0 l1 l1' hl1 l2 l2' hl2 l3 l3' hl3 l4 l4' hl4 m n hq bl0
  obtain ⟨rfl, dl0⟩ := hl0
  subst hl1
  subst hl2
  subst hl3
  subst hl4
  unfold fX4_nextOf_71
  exact (hk3 _ _ (pt_rf dl0) _ _ rfl _ _ rfl _ _ rfl _ _ rfl _ _ hq bl0)
theorem zX4_nextOf_54 {p : Nat → Nat} {v0 r0 : ml_M} {k3 k3' : Nat → Int32 → Int32 → Int32 → Int32 → ml_M → Option Int32} (hk3 : ∀ (l0 l0' : Nat) (hl0 : pt_r p l0 l0') (l1 l1' : Int32) (hl1 : l1 = l1') (l2 l2' : Int32) (hl2 : l2 = l2') (l3 l3' : Int32) (hl3 : l3 = l3') (l4 l4' : Int32) (hl4 : l4 = l4') (m n : ml_M) (hq : pt_Q p v0 r0 m n) (bl0 : l0 ≤ ml_n m), pt_T pt_Wv (k3 l0 l1 l2 l3 l4 m) (k3' l0' l1' l2' l3' l4' n)) : ∀ (l0 l0' : Nat) (hl0 : pt_r p l0 l0') (l1 l1' : Int32) (hl1 : l1 = l1') (l2 l2' : Int32) (hl2 : l2 = l2') (l3 l3' : Int32) (hl3 : l3 = l3') (l4 l4' : Int32) (hl4 : l4 = l4') (t0 t0' : Int32) (ht0 : t0 = t0') (t1 t1' : Int32) (ht1 : t1 = t1') (m n : ml_M) (hq : pt_Q p v0 r0 m n) (bl0 : l0 ≤ ml_n m), pt_T pt_Wv (fX4_nextOf_54 k3 l0 l1 l2 l3 l4 t0 t1 m) (fX4_nextOf_54 k3' l0' l1' l2' l3' l4' t0' t1' n) := by
  intro l0 l0' hl0 l1 l1' hl1 l2 l2' hl2 l3 l3' hl3 l4 l4' hl4 t0 t0' ht0 t1 t1' ht1 m n hq bl0
  obtain ⟨rfl, dl0⟩ := hl0
  subst hl1
  subst hl2
  subst hl3
  subst hl4
  subst ht0
  subst ht1
  unfold fX4_nextOf_54
  exact (pt_leti rfl fun x2074 => (pt_ck (pt_kc hq (pt_rf dl0)) fun hc2075 => (pt_letr (pt_R hq (pt_rf dl0) hc2075) (pt_Rb hq (pt_rf dl0) hc2075) fun a2076 d_a2076 b_a2076 => (pt_ck (pt_in hq (pt_rf d_a2076) rfl) fun hi2077 => (pt_ite (pt_e2 (fun (a b : Int32) => a = b) rfl (pt_Ia hq (pt_rf d_a2076) hi2077.1 rfl)) (fun _ => (pt_rtv rfl)) (fun _ => (zX4_nextOf_71 hk3  _ _ (pt_rf dl0) _ _ rfl _ _ rfl _ _ rfl _ _ rfl _ _ hq bl0)))))))
theorem zX4_nextOf_3 {p : Nat → Nat} {v0 r0 : ml_M} : ∀ (fu : Nat) (l0 l0' : Nat) (hl0 : pt_r p l0 l0') (l1 l1' : Int32) (hl1 : l1 = l1') (l2 l2' : Int32) (hl2 : l2 = l2') (l3 l3' : Int32) (hl3 : l3 = l3') (l4 l4' : Int32) (hl4 : l4 = l4') (m n : ml_M) (hq : pt_Q p v0 r0 m n) (bl0 : l0 ≤ ml_n m), pt_T pt_Wv (fX4_nextOf_3 fu l0 l1 l2 l3 l4 m) (fX4_nextOf_3 fu l0' l1' l2' l3' l4' n) := by
  intro fu
  induction fu with
  | zero => intro l0 l0' hl0 l1 l1' hl1 l2 l2' hl2 l3 l3' hl3 l4 l4' hl4 m n hq bl0; exact pt_none
  | succ fu ih =>
  intro l0 l0' hl0 l1 l1' hl1 l2 l2' hl2 l3 l3' hl3 l4 l4' hl4 m n hq bl0
  obtain ⟨rfl, dl0⟩ := hl0
  subst hl1
  subst hl2
  subst hl3
  subst hl4
  have hk3 := ih
  unfold fX4_nextOf_3
  exact (pt_ck (pt_kc hq (pt_rf dl0)) fun hc2078 => (pt_ite (pt_e2 (fun (a b : Int32) => b ≤ a) rfl (pt_I hq (pt_rf dl0) hc2078)) (fun _ => (pt_rtv rfl)) (fun _ => (pt_b1 (zX10_has _ _ rfl _ _ rfl _ _ hq) fun r2079 => (pt_ite rfl (fun _ => (pt_letr (pt_R hq (pt_rf dl0) hc2078) (pt_Rb hq (pt_rf dl0) hc2078) fun a2080 d_a2080 b_a2080 => (pt_b1 (zX4_slot _ _ rfl _ _ rfl _ _ hq) fun r2081 => (pt_ck (pt_in hq (pt_rf d_a2080) rfl) fun hi2082 => (pt_b1 (zX10_has _ _ rfl _ _ rfl _ _ hq) fun r2083 => (pt_ite rfl (fun _ => (zX4_nextOf_54 hk3  _ _ (pt_rf dl0) _ _ rfl _ _ rfl _ _ rfl _ _ rfl _ _ rfl _ _ (pt_Ia hq (pt_rf d_a2080) hi2082.1 rfl) _ _ hq bl0)) (fun _ => (zX4_nextOf_54 hk3  _ _ (pt_rf dl0) _ _ rfl _ _ rfl _ _ rfl _ _ rfl _ _ rfl _ _ (pt_Ia hq (pt_rf d_a2080) hi2082.1 rfl) _ _ hq bl0)))))))) (fun _ => (zX4_nextOf_71 hk3  _ _ (pt_rf dl0) _ _ rfl _ _ rfl _ _ rfl _ _ rfl _ _ hq bl0)))))))
theorem zX4_nextOf {p : Nat → Nat} {v0 r0 : ml_M} : ∀ (l0 l0' : Nat) (hl0 : pt_r p l0 l0') (l1 l1' : Int32) (hl1 : l1 = l1') (l2 l2' : Int32) (hl2 : l2 = l2') (l3 l3' : Int32) (hl3 : l3 = l3') (m n : ml_M) (hq : pt_Q p v0 r0 m n) (bl0 : l0 ≤ ml_n m), pt_T pt_Wv (fX4_nextOf l0 l1 l2 l3 m) (fX4_nextOf l0' l1' l2' l3' n) := by
  intro l0 l0' hl0 l1 l1' hl1 l2 l2' hl2 l3 l3' hl3 m n hq bl0
  obtain ⟨rfl, dl0⟩ := hl0
  subst hl1
  subst hl2
  subst hl3
  unfold fX4_nextOf
  exact (zX4_nextOf_3  ml_fu _ _ (pt_rf dl0) _ _ rfl _ _ rfl _ _ rfl _ _ rfl _ _ hq bl0)
theorem zX4_findFirst_13 {p : Nat → Nat} {v0 r0 : ml_M} : ∀ (fu : Nat) (l0 l0' : Nat) (hl0 : pt_r p l0 l0') (l1 l1' : Int32) (hl1 : l1 = l1') (l2 l2' : Int32) (hl2 : l2 = l2') (l3 l3' : Int32) (hl3 : l3 = l3') (l4 l4' : Int32) (hl4 : l4 = l4') (m n : ml_M) (hq : pt_Q p v0 r0 m n) (bl0 : l0 ≤ ml_n m), pt_T (pt_WM p v0 r0) (fX4_findFirst_13 fu l0 l1 l2 l3 l4 m) (fX4_findFirst_13 fu l0' l1' l2' l3' l4' n) := by
  intro fu
  induction fu with
  | zero => intro l0 l0' hl0 l1 l1' hl1 l2 l2' hl2 l3 l3' hl3 l4 l4' hl4 m n hq bl0; exact pt_none
  | succ fu ih =>
  intro l0 l0' hl0 l1 l1' hl1 l2 l2' hl2 l3 l3' hl3 l4 l4' hl4 m n hq bl0
  obtain ⟨rfl, dl0⟩ := hl0
  subst hl1
  subst hl2
  subst hl3
  subst hl4
  have hk13 := ih
  unfold fX4_findFirst_13
  exact (pt_ck (pt_kc hq (pt_rf dl0)) fun hc2084 => (pt_ite (pt_e2 (fun (a b : Int32) => b ≤ a) rfl (pt_I hq (pt_rf dl0) hc2084)) (fun _ => (pt_retM hq)) (fun _ => (pt_b1 (zX4_nextOf _ _ (pt_rf dl0) _ _ rfl _ _ rfl _ _ rfl _ _ hq bl0) fun r2085 => (pt_letr (pt_R hq (pt_rf dl0) hc2084) (pt_Rb hq (pt_rf dl0) hc2084) fun a2086 d_a2086 b_a2086 => (pt_ck (pt_in hq (pt_rf d_a2086) rfl) fun hi2087 => (pt_letk rfl (Nat.le_refl _) (pt_sIa hq (pt_rf d_a2086) rfl rfl) fun m2088 n2089 em2090 hn2092 hq2091 => (pt_leti rfl fun x2093 => (pt_b1 (zX4_slot _ _ rfl _ _ rfl _ _ hq2091) fun r2094 => (pt_letr (pt_R hq2091 (pt_rf dl0) (ml_kk em2090 hc2084)) (pt_Rb hq2091 (pt_rf dl0) (ml_kk em2090 hc2084)) fun a2095 d_a2095 b_a2095 => (pt_ck (pt_in hq2091 (pt_rf d_a2095) rfl) fun hi2096 => (pt_leti (pt_Ia hq2091 (pt_rf d_a2095) hi2096.1 rfl) fun x2097 => (hk13 _ _ (pt_rf dl0) _ _ rfl _ _ rfl _ _ rfl _ _ rfl _ _ hq2091 (Nat.le_trans bl0 hn2092))))))))))))))
theorem zX4_findFirst {p : Nat → Nat} {v0 r0 : ml_M} : ∀ (l0 l0' : Nat) (hl0 : pt_r p l0 l0') (m n : ml_M) (hq : pt_Q p v0 r0 m n) (bl0 : l0 ≤ ml_n m), pt_T (pt_WM p v0 r0) (fX4_findFirst l0 m) (fX4_findFirst l0' n) := by
  intro l0 l0' hl0 m n hq bl0
  obtain ⟨rfl, dl0⟩ := hl0
  unfold fX4_findFirst
  exact (pt_b1 (zX4_slot _ _ rfl _ _ rfl _ _ hq) fun r2098 => (zX4_findFirst_13  ml_fu _ _ (pt_rf dl0) _ _ rfl _ _ rfl _ _ rfl _ _ rfl _ _ hq bl0))
theorem zX4_gather_66 {p : Nat → Nat} {v0 r0 : ml_M} {k7 k7' : Nat → Nat → Int32 → ml_M → Option ml_M} (hk7 : ∀ (l0 l0' : Nat) (hl0 : pt_r p l0 l0') (l1 l1' : Nat) (hl1 : pt_r p l1 l1') (l3 l3' : Int32) (hl3 : l3 = l3') (m n : ml_M) (hq : pt_Q p v0 r0 m n) (bl0 : l0 ≤ ml_n m) (bl1 : l1 ≤ ml_n m), pt_T (pt_WM p v0 r0) (k7 l0 l1 l3 m) (k7' l0' l1' l3' n)) {k25 k25' : Nat → Nat → Int32 → Int32 → ml_M → Option ml_M} (hk25 : ∀ (l0 l0' : Nat) (hl0 : pt_r p l0 l0') (l1 l1' : Nat) (hl1 : pt_r p l1 l1') (l3 l3' : Int32) (hl3 : l3 = l3') (l4 l4' : Int32) (hl4 : l4 = l4') (m n : ml_M) (hq : pt_Q p v0 r0 m n) (bl0 : l0 ≤ ml_n m) (bl1 : l1 ≤ ml_n m), pt_T (pt_WM p v0 r0) (k25 l0 l1 l3 l4 m) (k25' l0' l1' l3' l4' n)) : ∀ (l0 l0' : Nat) (hl0 : pt_r p l0 l0') (l1 l1' : Nat) (hl1 : pt_r p l1 l1') (l3 l3' : Int32) (hl3 : l3 = l3') (l4 l4' : Int32) (hl4 : l4 = l4') (m n : ml_M) (hq : pt_Q p v0 r0 m n) (bl0 : l0 ≤ ml_n m) (bl1 : l1 ≤ ml_n m), pt_T (pt_WM p v0 r0) (fX4_gather_66 k7 k25 l0 l1 l3 l4 m) (fX4_gather_66 k7' k25' l0' l1' l3' l4' n) := by
  intro l0 l0' hl0 l1 l1' hl1 l3 l3' hl3 l4 l4' hl4 m n hq bl0 bl1
  obtain ⟨rfl, dl0⟩ := hl0
  obtain ⟨rfl, dl1⟩ := hl1
  subst hl3
  subst hl4
  unfold fX4_gather_66
  exact (hk25 _ _ (pt_rf dl0) _ _ (pt_rf dl1) _ _ rfl _ _ rfl _ _ hq bl0 bl1)
theorem zX4_gather_72 {p : Nat → Nat} {v0 r0 : ml_M} {k7 k7' : Nat → Nat → Int32 → ml_M → Option ml_M} (hk7 : ∀ (l0 l0' : Nat) (hl0 : pt_r p l0 l0') (l1 l1' : Nat) (hl1 : pt_r p l1 l1') (l3 l3' : Int32) (hl3 : l3 = l3') (m n : ml_M) (hq : pt_Q p v0 r0 m n) (bl0 : l0 ≤ ml_n m) (bl1 : l1 ≤ ml_n m), pt_T (pt_WM p v0 r0) (k7 l0 l1 l3 m) (k7' l0' l1' l3' n)) : ∀ (l0 l0' : Nat) (hl0 : pt_r p l0 l0') (l1 l1' : Nat) (hl1 : pt_r p l1 l1') (l3 l3' : Int32) (hl3 : l3 = l3') (m n : ml_M) (hq : pt_Q p v0 r0 m n) (bl0 : l0 ≤ ml_n m) (bl1 : l1 ≤ ml_n m), pt_T (pt_WM p v0 r0) (fX4_gather_72 k7 l0 l1 l3 m) (fX4_gather_72 k7' l0' l1' l3' n) := by
  intro l0 l0' hl0 l1 l1' hl1 l3 l3' hl3 m n hq bl0 bl1
  obtain ⟨rfl, dl0⟩ := hl0
  obtain ⟨rfl, dl1⟩ := hl1
  subst hl3
  unfold fX4_gather_72
  exact (hk7 _ _ (pt_rf dl0) _ _ (pt_rf dl1) _ _ rfl _ _ hq bl0 bl1)
theorem zX4_gather_25 {p : Nat → Nat} {v0 r0 : ml_M} {k7 k7' : Nat → Nat → Int32 → ml_M → Option ml_M} (hk7 : ∀ (l0 l0' : Nat) (hl0 : pt_r p l0 l0') (l1 l1' : Nat) (hl1 : pt_r p l1 l1') (l3 l3' : Int32) (hl3 : l3 = l3') (m n : ml_M) (hq : pt_Q p v0 r0 m n) (bl0 : l0 ≤ ml_n m) (bl1 : l1 ≤ ml_n m), pt_T (pt_WM p v0 r0) (k7 l0 l1 l3 m) (k7' l0' l1' l3' n)) : ∀ (fu : Nat) (l0 l0' : Nat) (hl0 : pt_r p l0 l0') (l1 l1' : Nat) (hl1 : pt_r p l1 l1') (l3 l3' : Int32) (hl3 : l3 = l3') (l4 l4' : Int32) (hl4 : l4 = l4') (m n : ml_M) (hq : pt_Q p v0 r0 m n) (bl0 : l0 ≤ ml_n m) (bl1 : l1 ≤ ml_n m), pt_T (pt_WM p v0 r0) (fX4_gather_25 k7 fu l0 l1 l3 l4 m) (fX4_gather_25 k7' fu l0' l1' l3' l4' n) := by
  intro fu
  induction fu with
  | zero => intro l0 l0' hl0 l1 l1' hl1 l3 l3' hl3 l4 l4' hl4 m n hq bl0 bl1; exact pt_none
  | succ fu ih =>
  intro l0 l0' hl0 l1 l1' hl1 l3 l3' hl3 l4 l4' hl4 m n hq bl0 bl1
  obtain ⟨rfl, dl0⟩ := hl0
  obtain ⟨rfl, dl1⟩ := hl1
  subst hl3
  subst hl4
  have hk25 := ih
  unfold fX4_gather_25
  exact (pt_ck (pt_kc hq (pt_rf dl0)) fun hc2099 => (pt_ite (pt_e2 (fun (a b : Int32) => b ≤ a) rfl (pt_I hq (pt_rf dl0) hc2099)) (fun _ => (zX4_gather_72 hk7  _ _ (pt_rf dl0) _ _ (pt_rf dl1) _ _ rfl _ _ hq bl0 bl1)) (fun _ => (pt_ite rfl (fun _ => (zX4_gather_66 hk7 hk25  _ _ (pt_rf dl0) _ _ (pt_rf dl1) _ _ rfl _ _ rfl _ _ hq bl0 bl1)) (fun _ => (pt_ck (pt_in hq (pt_rf dl1) rfl) fun hi2100 => pt_letr (pt_Ra hq (pt_rf dl1) hi2100.1 rfl) (pt_Rb hq (pt_rf dl1) hi2100.1) fun a2101 d_a2101 b_a2101 => (pt_ck (pt_in hq (pt_rf dl1) rfl) fun hi2102 => pt_letr (pt_Ra hq (pt_rf dl1) hi2102.1 rfl) (pt_Rb hq (pt_rf dl1) hi2102.1) fun a2103 d_a2103 b_a2103 => (pt_ck (pt_kc hq (pt_rf d_a2101)) fun hc2104 => (pt_b1 (zX0_meets _ _ (pt_rf d_a2101) _ _ (pt_rf d_a2103) _ _ hq b_a2101 b_a2103) fun r2105 => (pt_ite rfl (fun _ => (zX4_gather_66 hk7 hk25  _ _ (pt_rf dl0) _ _ (pt_rf dl1) _ _ rfl _ _ rfl _ _ hq bl0 bl1)) (fun _ => (pt_letr (pt_R hq (pt_rf dl0) hc2099) (pt_Rb hq (pt_rf dl0) hc2099) fun a2106 d_a2106 b_a2106 => (pt_ck (pt_in hq (pt_rf d_a2106) rfl) fun hi2107 => (pt_ck (pt_in hq (pt_rf d_a2106) rfl) fun hi2108 => (pt_letk rfl (Nat.le_refl _) (pt_sIa hq (pt_rf d_a2106) rfl (pt_e2 (fun (a b : Int32) => a ||| b) (pt_Ia hq (pt_rf d_a2106) hi2107.1 rfl) rfl)) fun m2109 n2110 em2111 hn2113 hq2112 => (zX4_gather_66 hk7 hk25  _ _ (pt_rf dl0) _ _ (pt_rf dl1) _ _ rfl _ _ rfl _ _ hq2112 (Nat.le_trans bl0 hn2113) (Nat.le_trans bl1 hn2113)))))))))))))))))
theorem zX4_gather_130 {p : Nat → Nat} {v0 r0 : ml_M} {k87 k87' : Nat → Int32 → ml_M → Option ml_M} (hk87 : ∀ (l0 l0' : Nat) (hl0 : pt_r p l0 l0') (l3 l3' : Int32) (hl3 : l3 = l3') (m n : ml_M) (hq : pt_Q p v0 r0 m n) (bl0 : l0 ≤ ml_n m), pt_T (pt_WM p v0 r0) (k87 l0 l3 m) (k87' l0' l3' n)) {k94 k94' : Nat → Int32 → Int32 → ml_M → Option ml_M} (hk94 : ∀ (l0 l0' : Nat) (hl0 : pt_r p l0 l0') (l3 l3' : Int32) (hl3 : l3 = l3') (l4 l4' : Int32) (hl4 : l4 = l4') (m n : ml_M) (hq : pt_Q p v0 r0 m n) (bl0 : l0 ≤ ml_n m), pt_T (pt_WM p v0 r0) (k94 l0 l3 l4 m) (k94' l0' l3' l4' n)) : ∀ (l0 l0' : Nat) (hl0 : pt_r p l0 l0') (l3 l3' : Int32) (hl3 : l3 = l3') (l4 l4' : Int32) (hl4 : l4 = l4') (m n : ml_M) (hq : pt_Q p v0 r0 m n) (bl0 : l0 ≤ ml_n m), pt_T (pt_WM p v0 r0) (fX4_gather_130 k87 k94 l0 l3 l4 m) (fX4_gather_130 k87' k94' l0' l3' l4' n) := by
  intro l0 l0' hl0 l3 l3' hl3 l4 l4' hl4 m n hq bl0
  obtain ⟨rfl, dl0⟩ := hl0
  subst hl3
  subst hl4
  unfold fX4_gather_130
  exact (hk94 _ _ (pt_rf dl0) _ _ rfl _ _ rfl _ _ hq bl0)
theorem zX4_gather_136 {p : Nat → Nat} {v0 r0 : ml_M} {k87 k87' : Nat → Int32 → ml_M → Option ml_M} (hk87 : ∀ (l0 l0' : Nat) (hl0 : pt_r p l0 l0') (l3 l3' : Int32) (hl3 : l3 = l3') (m n : ml_M) (hq : pt_Q p v0 r0 m n) (bl0 : l0 ≤ ml_n m), pt_T (pt_WM p v0 r0) (k87 l0 l3 m) (k87' l0' l3' n)) : ∀ (l0 l0' : Nat) (hl0 : pt_r p l0 l0') (l3 l3' : Int32) (hl3 : l3 = l3') (m n : ml_M) (hq : pt_Q p v0 r0 m n) (bl0 : l0 ≤ ml_n m), pt_T (pt_WM p v0 r0) (fX4_gather_136 k87 l0 l3 m) (fX4_gather_136 k87' l0' l3' n) := by
  intro l0 l0' hl0 l3 l3' hl3 m n hq bl0
  obtain ⟨rfl, dl0⟩ := hl0
  subst hl3
  unfold fX4_gather_136
  exact (hk87 _ _ (pt_rf dl0) _ _ rfl _ _ hq bl0)
theorem zX4_gather_94 {p : Nat → Nat} {v0 r0 : ml_M} {k87 k87' : Nat → Int32 → ml_M → Option ml_M} (hk87 : ∀ (l0 l0' : Nat) (hl0 : pt_r p l0 l0') (l3 l3' : Int32) (hl3 : l3 = l3') (m n : ml_M) (hq : pt_Q p v0 r0 m n) (bl0 : l0 ≤ ml_n m), pt_T (pt_WM p v0 r0) (k87 l0 l3 m) (k87' l0' l3' n)) : ∀ (fu : Nat) (l0 l0' : Nat) (hl0 : pt_r p l0 l0') (l3 l3' : Int32) (hl3 : l3 = l3') (l4 l4' : Int32) (hl4 : l4 = l4') (m n : ml_M) (hq : pt_Q p v0 r0 m n) (bl0 : l0 ≤ ml_n m), pt_T (pt_WM p v0 r0) (fX4_gather_94 k87 fu l0 l3 l4 m) (fX4_gather_94 k87' fu l0' l3' l4' n) := by
  intro fu
  induction fu with
  | zero => intro l0 l0' hl0 l3 l3' hl3 l4 l4' hl4 m n hq bl0; exact pt_none
  | succ fu ih =>
  intro l0 l0' hl0 l3 l3' hl3 l4 l4' hl4 m n hq bl0
  obtain ⟨rfl, dl0⟩ := hl0
  subst hl3
  subst hl4
  have hk94 := ih
  unfold fX4_gather_94
  exact (pt_ck (pt_kc hq (pt_rf dl0)) fun hc2114 => (pt_ite (pt_e2 (fun (a b : Int32) => b ≤ a) rfl (pt_I hq (pt_rf dl0) hc2114)) (fun _ => (zX4_gather_136 hk87  _ _ (pt_rf dl0) _ _ rfl _ _ hq bl0)) (fun _ => (pt_b1 (zX10_has _ _ rfl _ _ rfl _ _ hq) fun r2115 => (pt_ite rfl (fun _ => (zX4_gather_130 hk87 hk94  _ _ (pt_rf dl0) _ _ rfl _ _ rfl _ _ hq bl0)) (fun _ => (pt_b1 (zX4_slot _ _ rfl _ _ rfl _ _ hq) fun r2116 => (pt_letr (pt_R hq (pt_rf dl0) hc2114) (pt_Rb hq (pt_rf dl0) hc2114) fun a2117 d_a2117 b_a2117 => (pt_ck (pt_in hq (pt_rf d_a2117) rfl) fun hi2118 => (pt_b1m hq (zX4_follow _ _ (pt_rf dl0) _ _ rfl _ _ rfl _ _ (pt_Ia hq (pt_rf d_a2117) hi2118.1 rfl) _ _ (pt_ref hq) bl0) fun m2119 n2120 hn2122 hq2121 => (zX4_gather_130 hk87 hk94  _ _ (pt_rf dl0) _ _ rfl _ _ rfl _ _ hq2121 (Nat.le_trans bl0 hn2122))))))))))))
theorem zX4_gather_142 {p : Nat → Nat} {v0 r0 : ml_M} : ∀ (l0 l0' : Nat) (hl0 : pt_r p l0 l0') (m n : ml_M) (hq : pt_Q p v0 r0 m n) (bl0 : l0 ≤ ml_n m), pt_T (pt_WM p v0 r0) (fX4_gather_142 l0 m) (fX4_gather_142 l0' n) := by
  intro l0 l0' hl0 m n hq bl0
  obtain ⟨rfl, dl0⟩ := hl0
  unfold fX4_gather_142
  exact (pt_b1 (zX4_slot _ _ rfl _ _ rfl _ _ hq) fun r2123 => (pt_ck (pt_kc hq (pt_rf dl0)) fun hc2124 => (pt_b1m hq (zX4_follow _ _ (pt_rf dl0) _ _ rfl _ _ rfl _ _ rfl _ _ (pt_ref hq) bl0) fun m2125 n2126 hn2128 hq2127 => (pt_ck (pt_kc hq2127 (pt_rf dl0)) fun hc2129 => (pt_letr (pt_R hq2127 (pt_rf dl0) hc2129) (pt_Rb hq2127 (pt_rf dl0) hc2129) fun a2130 d_a2130 b_a2130 => (pt_b1 (zX4_slot _ _ rfl _ _ rfl _ _ hq2127) fun r2131 => (pt_ck (pt_in hq2127 (pt_rf d_a2130) rfl) fun hi2132 => (pt_letk rfl (Nat.le_refl _) (pt_sI hq2127 (pt_rf dl0) (pt_Ia hq2127 (pt_rf d_a2130) hi2132.1 rfl)) fun m2133 n2134 em2135 hn2137 hq2136 => (pt_letr (pt_R hq2136 (pt_rf dl0) (ml_kk em2135 hc2129)) (pt_Rb hq2136 (pt_rf dl0) (ml_kk em2135 hc2129)) fun a2138 d_a2138 b_a2138 => (pt_b1 (zX4_slot _ _ rfl _ _ rfl _ _ hq2136) fun r2139 => (pt_ck (pt_in hq2136 (pt_rf d_a2138) rfl) fun hi2140 => (pt_letk rfl (Nat.le_refl _) (pt_sI hq2136 (pt_rf dl0) (pt_Ia hq2136 (pt_rf d_a2138) hi2140.1 rfl)) fun m2141 n2142 em2143 hn2145 hq2144 => (pt_b1m hq2144 (zX4_findFirst _ _ (pt_rf dl0) _ _ (pt_ref hq2144) (Nat.le_trans (Nat.le_trans (Nat.le_trans bl0 hn2128) hn2137) hn2145)) fun m2146 n2147 hn2149 hq2148 => (pt_ck (pt_kc hq2148 (pt_rf dl0)) fun hc2150 => (pt_letk rfl (Nat.le_refl _) (pt_sI hq2148 (pt_rf dl0) rfl) fun m2151 n2152 em2153 hn2155 hq2154 => (pt_retM hq2154))))))))))))))))
theorem zX4_gather_87 {p : Nat → Nat} {v0 r0 : ml_M} : ∀ (fu : Nat) (l0 l0' : Nat) (hl0 : pt_r p l0 l0') (l3 l3' : Int32) (hl3 : l3 = l3') (m n : ml_M) (hq : pt_Q p v0 r0 m n) (bl0 : l0 ≤ ml_n m), pt_T (pt_WM p v0 r0) (fX4_gather_87 fu l0 l3 m) (fX4_gather_87 fu l0' l3' n) := by
  intro fu
  induction fu with
  | zero => intro l0 l0' hl0 l3 l3' hl3 m n hq bl0; exact pt_none
  | succ fu ih =>
  intro l0 l0' hl0 l3 l3' hl3 m n hq bl0
  obtain ⟨rfl, dl0⟩ := hl0
  subst hl3
  have hk87 := ih
  unfold fX4_gather_87
  exact (pt_ite rfl (fun _ => (zX4_gather_142   _ _ (pt_rf dl0) _ _ hq bl0)) (fun _ => (zX4_gather_94 hk87 ml_fu _ _ (pt_rf dl0) _ _ rfl _ _ rfl _ _ hq bl0)))
theorem zX4_gather_78 {p : Nat → Nat} {v0 r0 : ml_M} : ∀ (l0 l0' : Nat) (hl0 : pt_r p l0 l0') (m n : ml_M) (hq : pt_Q p v0 r0 m n) (bl0 : l0 ≤ ml_n m), pt_T (pt_WM p v0 r0) (fX4_gather_78 l0 m) (fX4_gather_78 l0' n) := by
  intro l0 l0' hl0 m n hq bl0
  obtain ⟨rfl, dl0⟩ := hl0
  unfold fX4_gather_78
  exact (pt_ck (pt_kc hq (pt_rf dl0)) fun hc2156 => (pt_leti (pt_e2 (fun (a b : Int32) => a - b) (pt_e2 (fun (a b : Int32) => a <<< (b &&& 31)) rfl (pt_I hq (pt_rf dl0) hc2156)) rfl) fun x2157 => (zX4_gather_87  ml_fu _ _ (pt_rf dl0) _ _ rfl _ _ hq bl0)))
theorem zX4_gather_7 {p : Nat → Nat} {v0 r0 : ml_M} : ∀ (fu : Nat) (l0 l0' : Nat) (hl0 : pt_r p l0 l0') (l1 l1' : Nat) (hl1 : pt_r p l1 l1') (l3 l3' : Int32) (hl3 : l3 = l3') (m n : ml_M) (hq : pt_Q p v0 r0 m n) (bl0 : l0 ≤ ml_n m) (bl1 : l1 ≤ ml_n m), pt_T (pt_WM p v0 r0) (fX4_gather_7 fu l0 l1 l3 m) (fX4_gather_7 fu l0' l1' l3' n) := by
  intro fu
  induction fu with
  | zero => intro l0 l0' hl0 l1 l1' hl1 l3 l3' hl3 m n hq bl0 bl1; exact pt_none
  | succ fu ih =>
  intro l0 l0' hl0 l1 l1' hl1 l3 l3' hl3 m n hq bl0 bl1
  obtain ⟨rfl, dl0⟩ := hl0
  obtain ⟨rfl, dl1⟩ := hl1
  subst hl3
  have hk7 := ih
  unfold fX4_gather_7
  exact (pt_ck (pt_kc hq (pt_rf dl0)) fun hc2158 => (pt_ite (pt_e2 (fun (a b : Int32) => b ≤ a) rfl (pt_I hq (pt_rf dl0) hc2158)) (fun _ => (zX4_gather_78   _ _ (pt_rf dl0) _ _ hq bl0)) (fun _ => (pt_letr (pt_R hq (pt_rf dl0) hc2158) (pt_Rb hq (pt_rf dl0) hc2158) fun a2159 d_a2159 b_a2159 => (pt_ck (pt_in hq (pt_rf d_a2159) rfl) fun hi2160 => (pt_letk rfl (Nat.le_refl _) (pt_sIa hq (pt_rf d_a2159) rfl rfl) fun m2161 n2162 em2163 hn2165 hq2164 => (zX4_gather_25 hk7 ml_fu _ _ (pt_rf dl0) _ _ (pt_rf dl1) _ _ rfl _ _ rfl _ _ hq2164 (Nat.le_trans bl0 hn2165) (Nat.le_trans bl1 hn2165))))))))
theorem zX4_gather {p : Nat → Nat} {v0 r0 : ml_M} : ∀ (l0 l0' : Nat) (hl0 : pt_r p l0 l0') (l1 l1' : Nat) (hl1 : pt_r p l1 l1') (l2 l2' : Int32) (hl2 : l2 = l2') (m n : ml_M) (hq : pt_Q p v0 r0 m n) (bl0 : l0 ≤ ml_n m) (bl1 : l1 ≤ ml_n m), pt_T (pt_WM p v0 r0) (fX4_gather l0 l1 l2 m) (fX4_gather l0' l1' l2' n) := by
  intro l0 l0' hl0 l1 l1' hl1 l2 l2' hl2 m n hq bl0 bl1
  obtain ⟨rfl, dl0⟩ := hl0
  obtain ⟨rfl, dl1⟩ := hl1
  subst hl2
  unfold fX4_gather
  exact (pt_ck (pt_kc hq (pt_rf dl0)) fun hc2166 => (pt_letk rfl (Nat.le_refl _) (pt_sI hq (pt_rf dl0) rfl) fun m2167 n2168 em2169 hn2171 hq2170 => (zX4_gather_7  ml_fu _ _ (pt_rf dl0) _ _ (pt_rf dl1) _ _ rfl _ _ hq2170 (Nat.le_trans bl0 hn2171) (Nat.le_trans bl1 hn2171))))

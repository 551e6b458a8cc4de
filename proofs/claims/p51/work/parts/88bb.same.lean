/-! printed by wip/p51/emit2.py: the class does the same in memories that hold the same -/
theorem zX10_isRow {p : Nat → Nat} {v0 r0 : ml_M} : ∀ (l0 l0' : Int32) (hl0 : l0 = l0') (m n : ml_M) (hq : pt_Q p v0 r0 m n), pt_T pt_Wv (fX10_isRow l0 m) (fX10_isRow l0' n) := by
  intro l0 l0' hl0 m n hq
  subst hl0
  unfold fX10_isRow
  exact (pt_b1 (zX10_within _ _ rfl _ _ rfl _ _ rfl _ _ hq) fun r1154 => (pt_ck (pt_z01 rfl) fun _ => (pt_rtv rfl)))
theorem zX7_compareYears_88 {p : Nat → Nat} {v0 r0 : ml_M} {k2 k2' : Nat → Nat → Int32 → ml_M → Option ml_M} (hk2 : ∀ (l0 l0' : Nat) (hl0 : pt_r p l0 l0') (l1 l1' : Nat) (hl1 : pt_r p l1 l1') (l2 l2' : Int32) (hl2 : l2 = l2') (m n : ml_M) (hq : pt_Q p v0 r0 m n) (bl0 : l0 ≤ ml_n m) (bl1 : l1 ≤ ml_n m), pt_T (pt_WM p v0 r0) (k2 l0 l1 l2 m) (k2' l0' l1' l2' n)) {k26 k26' : Nat → Nat → Int32 → Int32 → ml_M → Option ml_M} (hk26 : ∀ (l0 l0' : Nat) (hl0 : pt_r p l0 l0') (l1 l1' : Nat) (hl1 : pt_r p l1 l1') (l2 l2' : Int32) (hl2 : l2 = l2') (l3 l3' : Int32) (hl3 : l3 = l3') (m n : ml_M) (hq : pt_Q p v0 r0 m n) (bl0 : l0 ≤ ml_n m) (bl1 : l1 ≤ ml_n m), pt_T (pt_WM p v0 r0) (k26 l0 l1 l2 l3 m) (k26' l0' l1' l2' l3' n)) : ∀ (l0 l0' : Nat) (hl0 : pt_r p l0 l0') (l1 l1' : Nat) (hl1 : pt_r p l1 l1') (l2 l2' : Int32) (hl2 : l2 = l2') (l3 l3' : Int32) (hl3 : l3 = l3') (m n : ml_M) (hq : pt_Q p v0 r0 m n) (bl0 : l0 ≤ ml_n m) (bl1 : l1 ≤ ml_n m), pt_T (pt_WM p v0 r0) (fX7_compareYears_88 k2 k26 l0 l1 l2 l3 m) (fX7_compareYears_88 k2' k26' l0' l1' l2' l3' n) := by
  intro l0 l0' hl0 l1 l1' hl1 l2 l2' hl2 l3 l3' hl3 m n hq bl0 bl1
  obtain ⟨rfl, dl0⟩ := hl0
  obtain ⟨rfl, dl1⟩ := hl1
  subst hl2
  subst hl3
  unfold fX7_compareYears_88
  exact (hk26 _ _ (pt_rf dl0) _ _ (pt_rf dl1) _ _ rfl _ _ rfl _ _ hq bl0 bl1)
theorem zX7_compareYears_61 {p : Nat → Nat} {v0 r0 : ml_M} {k2 k2' : Nat → Nat → Int32 → ml_M → Option ml_M} (hk2 : ∀ (l0 l0' : Nat) (hl0 : pt_r p l0 l0') (l1 l1' : Nat) (hl1 : pt_r p l1 l1') (l2 l2' : Int32) (hl2 : l2 = l2') (m n : ml_M) (hq : pt_Q p v0 r0 m n) (bl0 : l0 ≤ ml_n m) (bl1 : l1 ≤ ml_n m), pt_T (pt_WM p v0 r0) (k2 l0 l1 l2 m) (k2' l0' l1' l2' n)) {k26 k26' : Nat → Nat → Int32 → Int32 → ml_M → Option ml_M} (hk26 : ∀ (l0 l0' : Nat) (hl0 : pt_r p l0 l0') (l1 l1' : Nat) (hl1 : pt_r p l1 l1') (l2 l2' : Int32) (hl2 : l2 = l2') (l3 l3' : Int32) (hl3 : l3 = l3') (m n : ml_M) (hq : pt_Q p v0 r0 m n) (bl0 : l0 ≤ ml_n m) (bl1 : l1 ≤ ml_n m), pt_T (pt_WM p v0 r0) (k26 l0 l1 l2 l3 m) (k26' l0' l1' l2' l3' n)) : ∀ (l0 l0' : Nat) (hl0 : pt_r p l0 l0') (l1 l1' : Nat) (hl1 : pt_r p l1 l1') (l2 l2' : Int32) (hl2 : l2 = l2') (l3 l3' : Int32) (hl3 : l3 = l3') (m n : ml_M) (hq : pt_Q p v0 r0 m n) (bl0 : l0 ≤ ml_n m) (bl1 : l1 ≤ ml_n m), pt_T (pt_WM p v0 r0) (fX7_compareYears_61 k2 k26 l0 l1 l2 l3 m) (fX7_compareYears_61 k2' k26' l0' l1' l2' l3' n) := by
  intro l0 l0' hl0 l1 l1' hl1 l2 l2' hl2 l3 l3' hl3 m n hq bl0 bl1
  obtain ⟨rfl, dl0⟩ := hl0
  obtain ⟨rfl, dl1⟩ := hl1
  subst hl2
  subst hl3
  unfold fX7_compareYears_61
  exact (pt_ck (pt_in hq (pt_rf dl1) rfl) fun hi1155 => pt_letr (pt_Ra hq (pt_rf dl1) hi1155.1 rfl) (pt_Rb hq (pt_rf dl1) hi1155.1) fun a1156 d_a1156 b_a1156 => (pt_ck (pt_kc hq (pt_rf d_a1156)) fun hc1157 => (pt_ck (pt_in hq (pt_rf dl1) rfl) fun hi1158 => pt_letr (pt_Ra hq (pt_rf dl1) hi1158.1 rfl) (pt_Rb hq (pt_rf dl1) hi1158.1) fun a1159 d_a1159 b_a1159 => (pt_ck (pt_kc hq (pt_rf d_a1159)) fun hc1160 => (pt_ite (pt_e2 (fun (a b : Int32) => b < a) (pt_I hq (pt_rf d_a1156) hc1157) (pt_I hq (pt_rf d_a1159) hc1160)) (fun _ => (zX7_compareYears_88 hk2 hk26  _ _ (pt_rf dl0) _ _ (pt_rf dl1) _ _ rfl _ _ rfl _ _ hq bl0 bl1)) (fun _ => (pt_ck (pt_kc hq (pt_rf dl0)) fun hc1161 => (pt_letr (pt_R hq (pt_rf dl0) hc1161) (pt_Rb hq (pt_rf dl0) hc1161) fun a1162 d_a1162 b_a1162 => (pt_ck (pt_in hq (pt_rf d_a1162) rfl) fun hi1163 => (pt_ck (pt_in hq (pt_rf d_a1162) rfl) fun hi1164 => (pt_letk rfl (Nat.le_refl _) (pt_sIa hq (pt_rf d_a1162) rfl (pt_e2 (fun (a b : Int32) => a ||| b) (pt_Ia hq (pt_rf d_a1162) hi1163.1 rfl) rfl)) fun m1165 n1166 em1167 hn1169 hq1168 => (zX7_compareYears_88 hk2 hk26  _ _ (pt_rf dl0) _ _ (pt_rf dl1) _ _ rfl _ _ rfl _ _ hq1168 (Nat.le_trans bl0 hn1169) (Nat.le_trans bl1 hn1169)))))))))))))
theorem zX7_compareYears_94 {p : Nat → Nat} {v0 r0 : ml_M} {k2 k2' : Nat → Nat → Int32 → ml_M → Option ml_M} (hk2 : ∀ (l0 l0' : Nat) (hl0 : pt_r p l0 l0') (l1 l1' : Nat) (hl1 : pt_r p l1 l1') (l2 l2' : Int32) (hl2 : l2 = l2') (m n : ml_M) (hq : pt_Q p v0 r0 m n) (bl0 : l0 ≤ ml_n m) (bl1 : l1 ≤ ml_n m), pt_T (pt_WM p v0 r0) (k2 l0 l1 l2 m) (k2' l0' l1' l2' n)) : ∀ (l0 l0' : Nat) (hl0 : pt_r p l0 l0') (l1 l1' : Nat) (hl1 : pt_r p l1 l1') (l2 l2' : Int32) (hl2 : l2 = l2') (m n : ml_M) (hq : pt_Q p v0 r0 m n) (bl0 : l0 ≤ ml_n m) (bl1 : l1 ≤ ml_n m), pt_T (pt_WM p v0 r0) (fX7_compareYears_94 k2 l0 l1 l2 m) (fX7_compareYears_94 k2' l0' l1' l2' n) := by
  intro l0 l0' hl0 l1 l1' hl1 l2 l2' hl2 m n hq bl0 bl1
  obtain ⟨rfl, dl0⟩ := hl0
  obtain ⟨rfl, dl1⟩ := hl1
  subst hl2
  unfold fX7_compareYears_94
  exact (hk2 _ _ (pt_rf dl0) _ _ (pt_rf dl1) _ _ rfl _ _ hq bl0 bl1)
theorem zX7_compareYears_26 {p : Nat → Nat} {v0 r0 : ml_M} {k2 k2' : Nat → Nat → Int32 → ml_M → Option ml_M} (hk2 : ∀ (l0 l0' : Nat) (hl0 : pt_r p l0 l0') (l1 l1' : Nat) (hl1 : pt_r p l1 l1') (l2 l2' : Int32) (hl2 : l2 = l2') (m n : ml_M) (hq : pt_Q p v0 r0 m n) (bl0 : l0 ≤ ml_n m) (bl1 : l1 ≤ ml_n m), pt_T (pt_WM p v0 r0) (k2 l0 l1 l2 m) (k2' l0' l1' l2' n)) : ∀ (fu : Nat) (l0 l0' : Nat) (hl0 : pt_r p l0 l0') (l1 l1' : Nat) (hl1 : pt_r p l1 l1') (l2 l2' : Int32) (hl2 : l2 = l2') (l3 l3' : Int32) (hl3 : l3 = l3') (m n : ml_M) (hq : pt_Q p v0 r0 m n) (bl0 : l0 ≤ ml_n m) (bl1 : l1 ≤ ml_n m), pt_T (pt_WM p v0 r0) (fX7_compareYears_26 k2 fu l0 l1 l2 l3 m) (fX7_compareYears_26 k2' fu l0' l1' l2' l3' n) := by
  intro fu
  induction fu with
  | zero => intro l0 l0' hl0 l1 l1' hl1 l2 l2' hl2 l3 l3' hl3 m n hq bl0 bl1; exact pt_none
  | succ fu ih =>
  intro l0 l0' hl0 l1 l1' hl1 l2 l2' hl2 l3 l3' hl3 m n hq bl0 bl1
  obtain ⟨rfl, dl0⟩ := hl0
  obtain ⟨rfl, dl1⟩ := hl1
  subst hl2
  subst hl3
  have hk26 := ih
  unfold fX7_compareYears_26
  exact (pt_ck (pt_kc hq (pt_rf dl0)) fun hc1170 => (pt_ite (pt_e2 (fun (a b : Int32) => b ≤ a) rfl (pt_I hq (pt_rf dl0) hc1170)) (fun _ => (zX7_compareYears_94 hk2  _ _ (pt_rf dl0) _ _ (pt_rf dl1) _ _ rfl _ _ hq bl0 bl1)) (fun _ => (pt_ck (pt_in hq (pt_rf dl1) rfl) fun hi1171 => pt_letr (pt_Ra hq (pt_rf dl1) hi1171.1 rfl) (pt_Rb hq (pt_rf dl1) hi1171.1) fun a1172 d_a1172 b_a1172 => (pt_ck (pt_kc hq (pt_rf d_a1172)) fun hc1173 => (pt_ck (pt_in hq (pt_rf dl1) rfl) fun hi1174 => pt_letr (pt_Ra hq (pt_rf dl1) hi1174.1 rfl) (pt_Rb hq (pt_rf dl1) hi1174.1) fun a1175 d_a1175 b_a1175 => (pt_ck (pt_kc hq (pt_rf d_a1175)) fun hc1176 => (pt_ite (pt_e2 (fun (a b : Int32) => a < b) (pt_I hq (pt_rf d_a1172) hc1173) (pt_I hq (pt_rf d_a1175) hc1176)) (fun _ => (zX7_compareYears_61 hk2 hk26  _ _ (pt_rf dl0) _ _ (pt_rf dl1) _ _ rfl _ _ rfl _ _ hq bl0 bl1)) (fun _ => (pt_letr (pt_R hq (pt_rf dl0) hc1170) (pt_Rb hq (pt_rf dl0) hc1170) fun a1177 d_a1177 b_a1177 => (pt_ck (pt_in hq (pt_rf d_a1177) rfl) fun hi1178 => (pt_ck (pt_in hq (pt_rf d_a1177) rfl) fun hi1179 => (pt_letk rfl (Nat.le_refl _) (pt_sIa hq (pt_rf d_a1177) rfl (pt_e2 (fun (a b : Int32) => a ||| b) (pt_Ia hq (pt_rf d_a1177) hi1178.1 rfl) rfl)) fun m1180 n1181 em1182 hn1184 hq1183 => (zX7_compareYears_61 hk2 hk26  _ _ (pt_rf dl0) _ _ (pt_rf dl1) _ _ rfl _ _ rfl _ _ hq1183 (Nat.le_trans bl0 hn1184) (Nat.le_trans bl1 hn1184)))))))))))))))
theorem zX7_compareYears_2 {p : Nat → Nat} {v0 r0 : ml_M} : ∀ (fu : Nat) (l0 l0' : Nat) (hl0 : pt_r p l0 l0') (l1 l1' : Nat) (hl1 : pt_r p l1 l1') (l2 l2' : Int32) (hl2 : l2 = l2') (m n : ml_M) (hq : pt_Q p v0 r0 m n) (bl0 : l0 ≤ ml_n m) (bl1 : l1 ≤ ml_n m), pt_T (pt_WM p v0 r0) (fX7_compareYears_2 fu l0 l1 l2 m) (fX7_compareYears_2 fu l0' l1' l2' n) := by
  intro fu
  induction fu with
  | zero => intro l0 l0' hl0 l1 l1' hl1 l2 l2' hl2 m n hq bl0 bl1; exact pt_none
  | succ fu ih =>
  intro l0 l0' hl0 l1 l1' hl1 l2 l2' hl2 m n hq bl0 bl1
  obtain ⟨rfl, dl0⟩ := hl0
  obtain ⟨rfl, dl1⟩ := hl1
  subst hl2
  have hk2 := ih
  unfold fX7_compareYears_2
  exact (pt_ck (pt_kc hq (pt_rf dl0)) fun hc1185 => (pt_ite (pt_e2 (fun (a b : Int32) => b ≤ a) rfl (pt_I hq (pt_rf dl0) hc1185)) (fun _ => (pt_retM hq)) (fun _ => (pt_letr (pt_R hq (pt_rf dl0) hc1185) (pt_Rb hq (pt_rf dl0) hc1185) fun a1186 d_a1186 b_a1186 => (pt_ck (pt_in hq (pt_rf d_a1186) rfl) fun hi1187 => (pt_letk rfl (Nat.le_refl _) (pt_sIa hq (pt_rf d_a1186) rfl rfl) fun m1188 n1189 em1190 hn1192 hq1191 => (pt_letr (pt_R hq1191 (pt_rf dl0) (ml_kk em1190 hc1185)) (pt_Rb hq1191 (pt_rf dl0) (ml_kk em1190 hc1185)) fun a1193 d_a1193 b_a1193 => (pt_ck (pt_in hq1191 (pt_rf d_a1193) rfl) fun hi1194 => (pt_letk rfl (Nat.le_refl _) (pt_sIa hq1191 (pt_rf d_a1193) rfl rfl) fun m1195 n1196 em1197 hn1199 hq1198 => (zX7_compareYears_26 hk2 ml_fu _ _ (pt_rf dl0) _ _ (pt_rf dl1) _ _ rfl _ _ rfl _ _ hq1198 (Nat.le_trans (Nat.le_trans bl0 hn1192) hn1199) (Nat.le_trans (Nat.le_trans bl1 hn1192) hn1199)))))))))))
theorem zX7_compareYears {p : Nat → Nat} {v0 r0 : ml_M} : ∀ (l0 l0' : Nat) (hl0 : pt_r p l0 l0') (l1 l1' : Nat) (hl1 : pt_r p l1 l1') (m n : ml_M) (hq : pt_Q p v0 r0 m n) (bl0 : l0 ≤ ml_n m) (bl1 : l1 ≤ ml_n m), pt_T (pt_WM p v0 r0) (fX7_compareYears l0 l1 m) (fX7_compareYears l0' l1' n) := by
  intro l0 l0' hl0 l1 l1' hl1 m n hq bl0 bl1
  obtain ⟨rfl, dl0⟩ := hl0
  obtain ⟨rfl, dl1⟩ := hl1
  unfold fX7_compareYears
  exact (zX7_compareYears_2  ml_fu _ _ (pt_rf dl0) _ _ (pt_rf dl1) _ _ rfl _ _ hq bl0 bl1)
theorem zX10_has {p : Nat → Nat} {v0 r0 : ml_M} : ∀ (l0 l0' : Int32) (hl0 : l0 = l0') (l1 l1' : Int32) (hl1 : l1 = l1') (m n : ml_M) (hq : pt_Q p v0 r0 m n), pt_T pt_Wv (fX10_has l0 l1 m) (fX10_has l0' l1' n) := by
  intro l0 l0' hl0 l1 l1' hl1 m n hq
  subst hl0
  subst hl1
  unfold fX10_has
  exact (pt_ite rfl (fun _ => (pt_rtv rfl)) (fun _ => (pt_rtv rfl)))
theorem zX7_countStrangers_78 {p : Nat → Nat} {v0 r0 : ml_M} {k10 k10' : Nat → Nat → Int32 → Int32 → ml_M → Option ml_M} (hk10 : ∀ (l0 l0' : Nat) (hl0 : pt_r p l0 l0') (l1 l1' : Nat) (hl1 : pt_r p l1 l1') (l2 l2' : Int32) (hl2 : l2 = l2') (l3 l3' : Int32) (hl3 : l3 = l3') (m n : ml_M) (hq : pt_Q p v0 r0 m n) (bl0 : l0 ≤ ml_n m) (bl1 : l1 ≤ ml_n m), pt_T (pt_WM p v0 r0) (k10 l0 l1 l2 l3 m) (k10' l0' l1' l2' l3' n)) {k36 k36' : Nat → Nat → Int32 → Int32 → Nat → Int32 → ml_M → Option ml_M} (hk36 : ∀ (l0 l0' : Nat) (hl0 : pt_r p l0 l0') (l1 l1' : Nat) (hl1 : pt_r p l1 l1') (l2 l2' : Int32) (hl2 : l2 = l2') (l3 l3' : Int32) (hl3 : l3 = l3') (l4 l4' : Nat) (hl4 : pt_r p l4 l4') (l5 l5' : Int32) (hl5 : l5 = l5') (m n : ml_M) (hq : pt_Q p v0 r0 m n) (bl0 : l0 ≤ ml_n m) (bl1 : l1 ≤ ml_n m) (bl4 : l4 ≤ ml_n m), pt_T (pt_WM p v0 r0) (k36 l0 l1 l2 l3 l4 l5 m) (k36' l0' l1' l2' l3' l4' l5' n)) : ∀ (l0 l0' : Nat) (hl0 : pt_r p l0 l0') (l1 l1' : Nat) (hl1 : pt_r p l1 l1') (l2 l2' : Int32) (hl2 : l2 = l2') (l3 l3' : Int32) (hl3 : l3 = l3') (l4 l4' : Nat) (hl4 : pt_r p l4 l4') (l5 l5' : Int32) (hl5 : l5 = l5') (m n : ml_M) (hq : pt_Q p v0 r0 m n) (bl0 : l0 ≤ ml_n m) (bl1 : l1 ≤ ml_n m) (bl4 : l4 ≤ ml_n m), pt_T (pt_WM p v0 r0) (fX7_countStrangers_78 k10 k36 l0 l1 l2 l3 l4 l5 m) (fX7_countStrangers_78 k10' k36' l0' l1' l2' l3' l4' l5' n) := by
  intro l0 l0' hl0 l1 l1' hl1 l2 l2' hl2 l3 l3' hl3 l4 l4' hl4 l5 l5' hl5 m n hq bl0 bl1 bl4
  obtain ⟨rfl, dl0⟩ := hl0
  obtain ⟨rfl, dl1⟩ := hl1
  subst hl2
  subst hl3
  obtain ⟨rfl, dl4⟩ := hl4
  subst hl5
  unfold fX7_countStrangers_78
  exact (hk36 _ _ (pt_rf dl0) _ _ (pt_rf dl1) _ _ rfl _ _ rfl _ _ (pt_rf dl4) _ _ rfl _ _ hq bl0 bl1 bl4)
theorem zX7_countStrangers_84 {p : Nat → Nat} {v0 r0 : ml_M} {k10 k10' : Nat → Nat → Int32 → Int32 → ml_M → Option ml_M} (hk10 : ∀ (l0 l0' : Nat) (hl0 : pt_r p l0 l0') (l1 l1' : Nat) (hl1 : pt_r p l1 l1') (l2 l2' : Int32) (hl2 : l2 = l2') (l3 l3' : Int32) (hl3 : l3 = l3') (m n : ml_M) (hq : pt_Q p v0 r0 m n) (bl0 : l0 ≤ ml_n m) (bl1 : l1 ≤ ml_n m), pt_T (pt_WM p v0 r0) (k10 l0 l1 l2 l3 m) (k10' l0' l1' l2' l3' n)) : ∀ (l0 l0' : Nat) (hl0 : pt_r p l0 l0') (l1 l1' : Nat) (hl1 : pt_r p l1 l1') (l2 l2' : Int32) (hl2 : l2 = l2') (l3 l3' : Int32) (hl3 : l3 = l3') (m n : ml_M) (hq : pt_Q p v0 r0 m n) (bl0 : l0 ≤ ml_n m) (bl1 : l1 ≤ ml_n m), pt_T (pt_WM p v0 r0) (fX7_countStrangers_84 k10 l0 l1 l2 l3 m) (fX7_countStrangers_84 k10' l0' l1' l2' l3' n) := by
  intro l0 l0' hl0 l1 l1' hl1 l2 l2' hl2 l3 l3' hl3 m n hq bl0 bl1
  obtain ⟨rfl, dl0⟩ := hl0
  obtain ⟨rfl, dl1⟩ := hl1
  subst hl2
  subst hl3
  unfold fX7_countStrangers_84
  exact (hk10 _ _ (pt_rf dl0) _ _ (pt_rf dl1) _ _ rfl _ _ rfl _ _ hq bl0 bl1)
theorem zX7_countStrangers_36 {p : Nat → Nat} {v0 r0 : ml_M} {k10 k10' : Nat → Nat → Int32 → Int32 → ml_M → Option ml_M} (hk10 : ∀ (l0 l0' : Nat) (hl0 : pt_r p l0 l0') (l1 l1' : Nat) (hl1 : pt_r p l1 l1') (l2 l2' : Int32) (hl2 : l2 = l2') (l3 l3' : Int32) (hl3 : l3 = l3') (m n : ml_M) (hq : pt_Q p v0 r0 m n) (bl0 : l0 ≤ ml_n m) (bl1 : l1 ≤ ml_n m), pt_T (pt_WM p v0 r0) (k10 l0 l1 l2 l3 m) (k10' l0' l1' l2' l3' n)) : ∀ (fu : Nat) (l0 l0' : Nat) (hl0 : pt_r p l0 l0') (l1 l1' : Nat) (hl1 : pt_r p l1 l1') (l2 l2' : Int32) (hl2 : l2 = l2') (l3 l3' : Int32) (hl3 : l3 = l3') (l4 l4' : Nat) (hl4 : pt_r p l4 l4') (l5 l5' : Int32) (hl5 : l5 = l5') (m n : ml_M) (hq : pt_Q p v0 r0 m n) (bl0 : l0 ≤ ml_n m) (bl1 : l1 ≤ ml_n m) (bl4 : l4 ≤ ml_n m), pt_T (pt_WM p v0 r0) (fX7_countStrangers_36 k10 fu l0 l1 l2 l3 l4 l5 m) (fX7_countStrangers_36 k10' fu l0' l1' l2' l3' l4' l5' n) := by
  intro fu
  induction fu with
  | zero => intro l0 l0' hl0 l1 l1' hl1 l2 l2' hl2 l3 l3' hl3 l4 l4' hl4 l5 l5' hl5 m n hq bl0 bl1 bl4; exact pt_none
  | succ fu ih =>
  intro l0 l0' hl0 l1 l1' hl1 l2 l2' hl2 l3 l3' hl3 l4 l4' hl4 l5 l5' hl5 m n hq bl0 bl1 bl4
  obtain ⟨rfl, dl0⟩ := hl0
  obtain ⟨rfl, dl1⟩ := hl1
  subst hl2
  subst hl3
  obtain ⟨rfl, dl4⟩ := hl4
  subst hl5
  have hk36 := ih
  unfold fX7_countStrangers_36
  exact (pt_ck (pt_kc hq (pt_rf dl0)) fun hc1200 => (pt_ite (pt_e2 (fun (a b : Int32) => b ≤ a) rfl (pt_I hq (pt_rf dl0) hc1200)) (fun _ => (zX7_countStrangers_84 hk10  _ _ (pt_rf dl0) _ _ (pt_rf dl1) _ _ rfl _ _ rfl _ _ hq bl0 bl1)) (fun _ => (pt_ck (pt_kc hq (pt_rf dl4)) fun hc1201 => (pt_b1 (zX10_has _ _ (pt_I hq (pt_rf dl4) hc1201) _ _ rfl _ _ hq) fun r1202 => (pt_ite rfl (fun _ => (pt_letr (pt_R hq (pt_rf dl0) hc1200) (pt_Rb hq (pt_rf dl0) hc1200) fun a1203 d_a1203 b_a1203 => (pt_ck (pt_in hq (pt_rf d_a1203) (pt_e2 (fun (a b : Int32) => a + b) (pt_e2 (fun (a b : Int32) => a * b) (pt_I hq (pt_rf dl4) hc1201) rfl) rfl)) fun hi1204 => (pt_ck (pt_in hq (pt_rf d_a1203) (pt_e2 (fun (a b : Int32) => a + b) (pt_e2 (fun (a b : Int32) => a * b) (pt_I hq (pt_rf dl4) hc1201) rfl) rfl)) fun hi1205 => (pt_letk rfl (Nat.le_refl _) (pt_sIa hq (pt_rf d_a1203) (pt_e2 (fun (a b : Int32) => a + b) (pt_e2 (fun (a b : Int32) => a * b) (pt_I hq (pt_rf dl4) hc1201) rfl) rfl) (pt_e2 (fun (a b : Int32) => a + b) (pt_Ia hq (pt_rf d_a1203) hi1204.1 (pt_e2 (fun (a b : Int32) => a + b) (pt_e2 (fun (a b : Int32) => a * b) (pt_I hq (pt_rf dl4) hc1201) rfl) rfl)) rfl)) fun m1206 n1207 em1208 hn1210 hq1209 => (zX7_countStrangers_78 hk10 hk36  _ _ (pt_rf dl0) _ _ (pt_rf dl1) _ _ rfl _ _ rfl _ _ (pt_rf dl4) _ _ rfl _ _ hq1209 (Nat.le_trans bl0 hn1210) (Nat.le_trans bl1 hn1210) (Nat.le_trans bl4 hn1210))))))) (fun _ => (zX7_countStrangers_78 hk10 hk36  _ _ (pt_rf dl0) _ _ (pt_rf dl1) _ _ rfl _ _ rfl _ _ (pt_rf dl4) _ _ rfl _ _ hq bl0 bl1 bl4))))))))
theorem zX7_countStrangers_10 {p : Nat → Nat} {v0 r0 : ml_M} : ∀ (fu : Nat) (l0 l0' : Nat) (hl0 : pt_r p l0 l0') (l1 l1' : Nat) (hl1 : pt_r p l1 l1') (l2 l2' : Int32) (hl2 : l2 = l2') (l3 l3' : Int32) (hl3 : l3 = l3') (m n : ml_M) (hq : pt_Q p v0 r0 m n) (bl0 : l0 ≤ ml_n m) (bl1 : l1 ≤ ml_n m), pt_T (pt_WM p v0 r0) (fX7_countStrangers_10 fu l0 l1 l2 l3 m) (fX7_countStrangers_10 fu l0' l1' l2' l3' n) := by
  intro fu
  induction fu with
  | zero => intro l0 l0' hl0 l1 l1' hl1 l2 l2' hl2 l3 l3' hl3 m n hq bl0 bl1; exact pt_none
  | succ fu ih =>
  intro l0 l0' hl0 l1 l1' hl1 l2 l2' hl2 l3 l3' hl3 m n hq bl0 bl1
  obtain ⟨rfl, dl0⟩ := hl0
  obtain ⟨rfl, dl1⟩ := hl1
  subst hl2
  subst hl3
  have hk10 := ih
  unfold fX7_countStrangers_10
  exact (pt_ite rfl (fun _ => (pt_retM hq)) (fun _ => (pt_ck (pt_in hq (pt_rf dl1) rfl) fun hi1211 => pt_letr (pt_Ra hq (pt_rf dl1) hi1211.1 rfl) (pt_Rb hq (pt_rf dl1) hi1211.1) fun a1212 d_a1212 b_a1212 => (pt_ck (pt_kc hq (pt_rf d_a1212)) fun hc1213 => (pt_ite (pt_e2 (fun (a b : Int32) => a = b) (pt_I hq (pt_rf d_a1212) hc1213) rfl) (fun _ => (zX7_countStrangers_84 hk10  _ _ (pt_rf dl0) _ _ (pt_rf dl1) _ _ rfl _ _ rfl _ _ hq bl0 bl1)) (fun _ => (zX7_countStrangers_36 hk10 ml_fu _ _ (pt_rf dl0) _ _ (pt_rf dl1) _ _ rfl _ _ rfl _ _ (pt_rf d_a1212) _ _ rfl _ _ hq bl0 bl1 b_a1212)))))))
theorem zX7_countStrangers {p : Nat → Nat} {v0 r0 : ml_M} : ∀ (l0 l0' : Nat) (hl0 : pt_r p l0 l0') (l1 l1' : Nat) (hl1 : pt_r p l1 l1') (l2 l2' : Int32) (hl2 : l2 = l2') (m n : ml_M) (hq : pt_Q p v0 r0 m n) (bl0 : l0 ≤ ml_n m) (bl1 : l1 ≤ ml_n m), pt_T (pt_WM p v0 r0) (fX7_countStrangers l0 l1 l2 m) (fX7_countStrangers l0' l1' l2' n) := by
  intro l0 l0' hl0 l1 l1' hl1 l2 l2' hl2 m n hq bl0 bl1
  obtain ⟨rfl, dl0⟩ := hl0
  obtain ⟨rfl, dl1⟩ := hl1
  subst hl2
  unfold fX7_countStrangers
  exact (pt_ck (pt_kc hq (pt_rf dl0)) fun hc1214 => (pt_letr (pt_R hq (pt_rf dl0) hc1214) (pt_Rb hq (pt_rf dl0) hc1214) fun a1215 d_a1215 b_a1215 => (pt_b1m hq (zJ7_fill_53178 _ _ (pt_rf d_a1215) _ _ rfl _ _ (pt_ref hq) b_a1215) fun m1216 n1217 hn1219 hq1218 => (zX7_countStrangers_10  ml_fu _ _ (pt_rf dl0) _ _ (pt_rf dl1) _ _ rfl _ _ rfl _ _ hq1218 (Nat.le_trans bl0 hn1219) (Nat.le_trans bl1 hn1219)))))
theorem zX7_findCovers_46 {p : Nat → Nat} {v0 r0 : ml_M} {k2 k2' : Nat → Nat → Int32 → Int32 → ml_M → Option ml_M} (hk2 : ∀ (l0 l0' : Nat) (hl0 : pt_r p l0 l0') (l1 l1' : Nat) (hl1 : pt_r p l1 l1') (l2 l2' : Int32) (hl2 : l2 = l2') (l3 l3' : Int32) (hl3 : l3 = l3') (m n : ml_M) (hq : pt_Q p v0 r0 m n) (bl0 : l0 ≤ ml_n m) (bl1 : l1 ≤ ml_n m), pt_T (pt_WM p v0 r0) (k2 l0 l1 l2 l3 m) (k2' l0' l1' l2' l3' n)) {k18 k18' : Nat → Nat → Int32 → Int32 → Int32 → Int32 → ml_M → Option ml_M} (hk18 : ∀ (l0 l0' : Nat) (hl0 : pt_r p l0 l0') (l1 l1' : Nat) (hl1 : pt_r p l1 l1') (l2 l2' : Int32) (hl2 : l2 = l2') (l3 l3' : Int32) (hl3 : l3 = l3') (l4 l4' : Int32) (hl4 : l4 = l4') (l5 l5' : Int32) (hl5 : l5 = l5') (m n : ml_M) (hq : pt_Q p v0 r0 m n) (bl0 : l0 ≤ ml_n m) (bl1 : l1 ≤ ml_n m), pt_T (pt_WM p v0 r0) (k18 l0 l1 l2 l3 l4 l5 m) (k18' l0' l1' l2' l3' l4' l5' n)) : ∀ (l0 l0' : Nat) (hl0 : pt_r p l0 l0') (l1 l1' : Nat) (hl1 : pt_r p l1 l1') (l2 l2' : Int32) (hl2 : l2 = l2') (l3 l3' : Int32) (hl3 : l3 = l3') (l5 l5' : Int32) (hl5 : l5 = l5') (t0 t0' : Int32) (ht0 : t0 = t0') (m n : ml_M) (hq : pt_Q p v0 r0 m n) (bl0 : l0 ≤ ml_n m) (bl1 : l1 ≤ ml_n m), pt_T (pt_WM p v0 r0) (fX7_findCovers_46 k2 k18 l0 l1 l2 l3 l5 t0 m) (fX7_findCovers_46 k2' k18' l0' l1' l2' l3' l5' t0' n) := by
  intro l0 l0' hl0 l1 l1' hl1 l2 l2' hl2 l3 l3' hl3 l5 l5' hl5 t0 t0' ht0 m n hq bl0 bl1
  obtain ⟨rfl, dl0⟩ := hl0
  obtain ⟨rfl, dl1⟩ := hl1
  subst hl2
  subst hl3
  subst hl5
  subst ht0
  unfold fX7_findCovers_46
  exact (hk18 _ _ (pt_rf dl0) _ _ (pt_rf dl1) _ _ rfl _ _ rfl _ _ rfl _ _ rfl _ _ hq bl0 bl1)
theorem zX7_findCovers_54 {p : Nat → Nat} {v0 r0 : ml_M} {k2 k2' : Nat → Nat → Int32 → Int32 → ml_M → Option ml_M} (hk2 : ∀ (l0 l0' : Nat) (hl0 : pt_r p l0 l0') (l1 l1' : Nat) (hl1 : pt_r p l1 l1') (l2 l2' : Int32) (hl2 : l2 = l2') (l3 l3' : Int32) (hl3 : l3 = l3') (m n : ml_M) (hq : pt_Q p v0 r0 m n) (bl0 : l0 ≤ ml_n m) (bl1 : l1 ≤ ml_n m), pt_T (pt_WM p v0 r0) (k2 l0 l1 l2 l3 m) (k2' l0' l1' l2' l3' n)) : ∀ (l0 l0' : Nat) (hl0 : pt_r p l0 l0') (l1 l1' : Nat) (hl1 : pt_r p l1 l1') (l2 l2' : Int32) (hl2 : l2 = l2') (l3 l3' : Int32) (hl3 : l3 = l3') (l4 l4' : Int32) (hl4 : l4 = l4') (m n : ml_M) (hq : pt_Q p v0 r0 m n) (bl0 : l0 ≤ ml_n m) (bl1 : l1 ≤ ml_n m), pt_T (pt_WM p v0 r0) (fX7_findCovers_54 k2 l0 l1 l2 l3 l4 m) (fX7_findCovers_54 k2' l0' l1' l2' l3' l4' n) := by
  intro l0 l0' hl0 l1 l1' hl1 l2 l2' hl2 l3 l3' hl3 l4 l4' hl4 m n hq bl0 bl1
  obtain ⟨rfl, dl0⟩ := hl0
  obtain ⟨rfl, dl1⟩ := hl1
  subst hl2
  subst hl3
  subst hl4
  unfold fX7_findCovers_54
  exact (pt_ck (pt_kc hq (pt_rf dl0)) fun hc1220 => (pt_letr (pt_R hq (pt_rf dl0) hc1220) (pt_Rb hq (pt_rf dl0) hc1220) fun a1221 d_a1221 b_a1221 => (pt_ck (pt_in hq (pt_rf d_a1221) rfl) fun hi1222 => (pt_letk rfl (Nat.le_refl _) (pt_sIa hq (pt_rf d_a1221) rfl rfl) fun m1223 n1224 em1225 hn1227 hq1226 => (hk2 _ _ (pt_rf dl0) _ _ (pt_rf dl1) _ _ rfl _ _ rfl _ _ hq1226 (Nat.le_trans bl0 hn1227) (Nat.le_trans bl1 hn1227))))))
theorem zX7_findCovers_18 {p : Nat → Nat} {v0 r0 : ml_M} {k2 k2' : Nat → Nat → Int32 → Int32 → ml_M → Option ml_M} (hk2 : ∀ (l0 l0' : Nat) (hl0 : pt_r p l0 l0') (l1 l1' : Nat) (hl1 : pt_r p l1 l1') (l2 l2' : Int32) (hl2 : l2 = l2') (l3 l3' : Int32) (hl3 : l3 = l3') (m n : ml_M) (hq : pt_Q p v0 r0 m n) (bl0 : l0 ≤ ml_n m) (bl1 : l1 ≤ ml_n m), pt_T (pt_WM p v0 r0) (k2 l0 l1 l2 l3 m) (k2' l0' l1' l2' l3' n)) : ∀ (fu : Nat) (l0 l0' : Nat) (hl0 : pt_r p l0 l0') (l1 l1' : Nat) (hl1 : pt_r p l1 l1') (l2 l2' : Int32) (hl2 : l2 = l2') (l3 l3' : Int32) (hl3 : l3 = l3') (l4 l4' : Int32) (hl4 : l4 = l4') (l5 l5' : Int32) (hl5 : l5 = l5') (m n : ml_M) (hq : pt_Q p v0 r0 m n) (bl0 : l0 ≤ ml_n m) (bl1 : l1 ≤ ml_n m), pt_T (pt_WM p v0 r0) (fX7_findCovers_18 k2 fu l0 l1 l2 l3 l4 l5 m) (fX7_findCovers_18 k2' fu l0' l1' l2' l3' l4' l5' n) := by
  intro fu
  induction fu with
  | zero => intro l0 l0' hl0 l1 l1' hl1 l2 l2' hl2 l3 l3' hl3 l4 l4' hl4 l5 l5' hl5 m n hq bl0 bl1; exact pt_none
  | succ fu ih =>
  intro l0 l0' hl0 l1 l1' hl1 l2 l2' hl2 l3 l3' hl3 l4 l4' hl4 l5 l5' hl5 m n hq bl0 bl1
  obtain ⟨rfl, dl0⟩ := hl0
  obtain ⟨rfl, dl1⟩ := hl1
  subst hl2
  subst hl3
  subst hl4
  subst hl5
  have hk18 := ih
  unfold fX7_findCovers_18
  exact (pt_ite rfl (fun _ => (zX7_findCovers_54 hk2  _ _ (pt_rf dl0) _ _ (pt_rf dl1) _ _ rfl _ _ rfl _ _ rfl _ _ hq bl0 bl1)) (fun _ => (pt_ite rfl (fun _ => (zX7_findCovers_54 hk2  _ _ (pt_rf dl0) _ _ (pt_rf dl1) _ _ rfl _ _ rfl _ _ rfl _ _ hq bl0 bl1)) (fun _ => (pt_ck (pt_in hq (pt_rf dl1) rfl) fun hi1228 => pt_letr (pt_Ra hq (pt_rf dl1) hi1228.1 rfl) (pt_Rb hq (pt_rf dl1) hi1228.1) fun a1229 d_a1229 b_a1229 => (pt_ck (pt_kc hq (pt_rf d_a1229)) fun hc1230 => (pt_ite (pt_e1 (fun (a : Int32) => a = 0) (pt_e2 (fun (a b : Int32) => a &&& b) (pt_I hq (pt_rf d_a1229) hc1230) rfl)) (fun _ => (zX7_findCovers_46 hk2 hk18  _ _ (pt_rf dl0) _ _ (pt_rf dl1) _ _ rfl _ _ rfl _ _ rfl _ _ rfl _ _ hq bl0 bl1)) (fun _ => (zX7_findCovers_46 hk2 hk18  _ _ (pt_rf dl0) _ _ (pt_rf dl1) _ _ rfl _ _ rfl _ _ rfl _ _ rfl _ _ hq bl0 bl1)))))))))
theorem zX7_findCovers_2 {p : Nat → Nat} {v0 r0 : ml_M} : ∀ (fu : Nat) (l0 l0' : Nat) (hl0 : pt_r p l0 l0') (l1 l1' : Nat) (hl1 : pt_r p l1 l1') (l2 l2' : Int32) (hl2 : l2 = l2') (l3 l3' : Int32) (hl3 : l3 = l3') (m n : ml_M) (hq : pt_Q p v0 r0 m n) (bl0 : l0 ≤ ml_n m) (bl1 : l1 ≤ ml_n m), pt_T (pt_WM p v0 r0) (fX7_findCovers_2 fu l0 l1 l2 l3 m) (fX7_findCovers_2 fu l0' l1' l2' l3' n) := by
  intro fu
  induction fu with
  | zero => intro l0 l0' hl0 l1 l1' hl1 l2 l2' hl2 l3 l3' hl3 m n hq bl0 bl1; exact pt_none
  | succ fu ih =>
  intro l0 l0' hl0 l1 l1' hl1 l2 l2' hl2 l3 l3' hl3 m n hq bl0 bl1
  obtain ⟨rfl, dl0⟩ := hl0
  obtain ⟨rfl, dl1⟩ := hl1
  subst hl2
  subst hl3
  have hk2 := ih
  unfold fX7_findCovers_2
  exact (pt_ck (pt_kc hq (pt_rf dl0)) fun hc1231 => (pt_ite (pt_e2 (fun (a b : Int32) => b ≤ a) rfl (pt_e2 (fun (a b : Int32) => a <<< (b &&& 31)) rfl (pt_I hq (pt_rf dl0) hc1231))) (fun _ => (pt_retM hq)) (fun _ => (zX7_findCovers_18 hk2 ml_fu _ _ (pt_rf dl0) _ _ (pt_rf dl1) _ _ rfl _ _ rfl _ _ rfl _ _ rfl _ _ hq bl0 bl1))))
theorem zX7_findCovers {p : Nat → Nat} {v0 r0 : ml_M} : ∀ (l0 l0' : Nat) (hl0 : pt_r p l0 l0') (l1 l1' : Nat) (hl1 : pt_r p l1 l1') (l2 l2' : Int32) (hl2 : l2 = l2') (m n : ml_M) (hq : pt_Q p v0 r0 m n) (bl0 : l0 ≤ ml_n m) (bl1 : l1 ≤ ml_n m), pt_T (pt_WM p v0 r0) (fX7_findCovers l0 l1 l2 m) (fX7_findCovers l0' l1' l2' n) := by
  intro l0 l0' hl0 l1 l1' hl1 l2 l2' hl2 m n hq bl0 bl1
  obtain ⟨rfl, dl0⟩ := hl0
  obtain ⟨rfl, dl1⟩ := hl1
  subst hl2
  unfold fX7_findCovers
  exact (zX7_findCovers_2  ml_fu _ _ (pt_rf dl0) _ _ (pt_rf dl1) _ _ rfl _ _ rfl _ _ hq bl0 bl1)
theorem zX7_note_69 {p : Nat → Nat} {v0 r0 : ml_M} : ∀ (l0 l0' : Nat) (hl0 : pt_r p l0 l0') (l1 l1' : Int32) (hl1 : l1 = l1') (m n : ml_M) (hq : pt_Q p v0 r0 m n) (bl0 : l0 ≤ ml_n m), pt_T (pt_WM p v0 r0) (fX7_note_69 l0 l1 m) (fX7_note_69 l0' l1' n) := by
  intro l0 l0' hl0 l1 l1' hl1 m n hq bl0
  obtain ⟨rfl, dl0⟩ := hl0
  subst hl1
  unfold fX7_note_69
  exact (pt_ck (pt_kc hq (pt_rf dl0)) fun hc1232 => (pt_letk rfl (Nat.le_refl _) (pt_sI hq (pt_rf dl0) rfl) fun m1233 n1234 em1235 hn1237 hq1236 => (pt_letr (pt_R hq1236 (pt_rf dl0) (ml_kk em1235 hc1232)) (pt_Rb hq1236 (pt_rf dl0) (ml_kk em1235 hc1232)) fun a1238 d_a1238 b_a1238 => (pt_letr (pt_R hq1236 (pt_rf dl0) (ml_kk em1235 hc1232)) (pt_Rb hq1236 (pt_rf dl0) (ml_kk em1235 hc1232)) fun a1239 d_a1239 b_a1239 => (pt_ck (pt_cpo hq1236 (pt_rf d_a1238) (pt_rf d_a1239) rfl rfl rfl) fun ho1240 => (pt_letk rfl (Nat.le_refl _) (pt_cp hq1236 (pt_rf d_a1238) (pt_rf d_a1239) rfl rfl rfl ho1240.1.1) fun m1241 n1242 em1243 hn1245 hq1244 => (pt_retM hq1244)))))))
theorem zX7_note_51 {p : Nat → Nat} {v0 r0 : ml_M} : ∀ (l0 l0' : Nat) (hl0 : pt_r p l0 l0') (l1 l1' : Int32) (hl1 : l1 = l1') (m n : ml_M) (hq : pt_Q p v0 r0 m n) (bl0 : l0 ≤ ml_n m), pt_T (pt_WM p v0 r0) (fX7_note_51 l0 l1 m) (fX7_note_51 l0' l1' n) := by
  intro l0 l0' hl0 l1 l1' hl1 m n hq bl0
  obtain ⟨rfl, dl0⟩ := hl0
  subst hl1
  unfold fX7_note_51
  exact (pt_ck (pt_kc hq (pt_rf dl0)) fun hc1246 => (pt_ite (pt_e2 (fun (a b : Int32) => a = b) (pt_I hq (pt_rf dl0) hc1246) rfl) (fun _ => (zX7_note_69   _ _ (pt_rf dl0) _ _ rfl _ _ hq bl0)) (fun _ => (pt_ite (pt_e2 (fun (a b : Int32) => a < b) rfl (pt_I hq (pt_rf dl0) hc1246)) (fun _ => (zX7_note_69   _ _ (pt_rf dl0) _ _ rfl _ _ hq bl0)) (fun _ => (pt_retM hq))))))
theorem zX7_note_12 {p : Nat → Nat} {v0 r0 : ml_M} : ∀ (fu : Nat) (l0 l0' : Nat) (hl0 : pt_r p l0 l0') (l1 l1' : Int32) (hl1 : l1 = l1') (l2 l2' : Int32) (hl2 : l2 = l2') (m n : ml_M) (hq : pt_Q p v0 r0 m n) (bl0 : l0 ≤ ml_n m), pt_T (pt_WM p v0 r0) (fX7_note_12 fu l0 l1 l2 m) (fX7_note_12 fu l0' l1' l2' n) := by
  intro fu
  induction fu with
  | zero => intro l0 l0' hl0 l1 l1' hl1 l2 l2' hl2 m n hq bl0; exact pt_none
  | succ fu ih =>
  intro l0 l0' hl0 l1 l1' hl1 l2 l2' hl2 m n hq bl0
  obtain ⟨rfl, dl0⟩ := hl0
  subst hl1
  subst hl2
  have hk12 := ih
  unfold fX7_note_12
  exact (pt_ck (pt_kc hq (pt_rf dl0)) fun hc1247 => (pt_ite (pt_e2 (fun (a b : Int32) => b ≤ a) rfl (pt_I hq (pt_rf dl0) hc1247)) (fun _ => (zX7_note_51   _ _ (pt_rf dl0) _ _ rfl _ _ hq bl0)) (fun _ => (pt_letr (pt_R hq (pt_rf dl0) hc1247) (pt_Rb hq (pt_rf dl0) hc1247) fun a1248 d_a1248 b_a1248 => (pt_letr (pt_R hq (pt_rf dl0) hc1247) (pt_Rb hq (pt_rf dl0) hc1247) fun a1249 d_a1249 b_a1249 => (pt_ck (pt_in hq (pt_rf d_a1249) rfl) fun hi1250 => (pt_ck (pt_in hq (pt_rf d_a1248) (pt_e2 (fun (a b : Int32) => a + b) rfl (pt_Ia hq (pt_rf d_a1249) hi1250.1 rfl))) fun hi1251 => (pt_ck (pt_in hq (pt_rf d_a1248) (pt_e2 (fun (a b : Int32) => a + b) rfl (pt_Ia hq (pt_rf d_a1249) hi1250.1 rfl))) fun hi1252 => (pt_letk rfl (Nat.le_refl _) (pt_sIa hq (pt_rf d_a1248) (pt_e2 (fun (a b : Int32) => a + b) rfl (pt_Ia hq (pt_rf d_a1249) hi1250.1 rfl)) (pt_e2 (fun (a b : Int32) => a + b) (pt_Ia hq (pt_rf d_a1248) hi1251.1 (pt_e2 (fun (a b : Int32) => a + b) rfl (pt_Ia hq (pt_rf d_a1249) hi1250.1 rfl))) rfl)) fun m1253 n1254 em1255 hn1257 hq1256 => (hk12 _ _ (pt_rf dl0) _ _ rfl _ _ rfl _ _ hq1256 (Nat.le_trans bl0 hn1257)))))))))))
theorem zX7_note {p : Nat → Nat} {v0 r0 : ml_M} : ∀ (l0 l0' : Nat) (hl0 : pt_r p l0 l0') (l1 l1' : Int32) (hl1 : l1 = l1') (m n : ml_M) (hq : pt_Q p v0 r0 m n) (bl0 : l0 ≤ ml_n m), pt_T (pt_WM p v0 r0) (fX7_note l0 l1 m) (fX7_note l0' l1' n) := by
  intro l0 l0' hl0 l1 l1' hl1 m n hq bl0
  obtain ⟨rfl, dl0⟩ := hl0
  subst hl1
  unfold fX7_note
  exact (pt_ck (pt_kc hq (pt_rf dl0)) fun hc1258 => (pt_letr (pt_R hq (pt_rf dl0) hc1258) (pt_Rb hq (pt_rf dl0) hc1258) fun a1259 d_a1259 b_a1259 => (pt_ck (pt_in hq (pt_rf d_a1259) rfl) fun hi1260 => (pt_ck (pt_in hq (pt_rf d_a1259) rfl) fun hi1261 => (pt_letk rfl (Nat.le_refl _) (pt_sIa hq (pt_rf d_a1259) rfl (pt_e2 (fun (a b : Int32) => a + b) (pt_Ia hq (pt_rf d_a1259) hi1260.1 rfl) rfl)) fun m1262 n1263 em1264 hn1266 hq1265 => (zX7_note_12  ml_fu _ _ (pt_rf dl0) _ _ rfl _ _ rfl _ _ hq1265 (Nat.le_trans bl0 hn1266)))))))
theorem zX7_open_86 {p : Nat → Nat} {v0 r0 : ml_M} {k24 k24' : Nat → Int32 → Int32 → Nat → Int32 → ml_M → Option Int32} (hk24 : ∀ (l0 l0' : Nat) (hl0 : pt_r p l0 l0') (l1 l1' : Int32) (hl1 : l1 = l1') (l3 l3' : Int32) (hl3 : l3 = l3') (l4 l4' : Nat) (hl4 : pt_r p l4 l4') (l5 l5' : Int32) (hl5 : l5 = l5') (m n : ml_M) (hq : pt_Q p v0 r0 m n) (bl0 : l0 ≤ ml_n m) (bl4 : l4 ≤ ml_n m), pt_T pt_Wv (k24 l0 l1 l3 l4 l5 m) (k24' l0' l1' l3' l4' l5' n)) : ∀ (l0 l0' : Nat) (hl0 : pt_r p l0 l0') (l1 l1' : Int32) (hl1 : l1 = l1') (l3 l3' : Int32) (hl3 : l3 = l3') (l4 l4' : Nat) (hl4 : pt_r p l4 l4') (l5 l5' : Int32) (hl5 : l5 = l5') (m n : ml_M) (hq : pt_Q p v0 r0 m n) (bl0 : l0 ≤ ml_n m) (bl4 : l4 ≤ ml_n m), pt_T pt_Wv (fX7_open_86 k24 l0 l1 l3 l4 l5 m) (fX7_open_86 k24' l0' l1' l3' l4' l5' n) := by
  intro l0 l0' hl0 l1 l1' hl1 l3 l3' hl3 l4 l4' hl4 l5 l5' hl5 m n hq bl0 bl4
  obtain ⟨rfl, dl0⟩ := hl0
  subst hl1
  subst hl3
  obtain ⟨rfl, dl4⟩ := hl4
  subst hl5
  unfold fX7_open_86
  exact (hk24 _ _ (pt_rf dl0) _ _ rfl _ _ rfl _ _ (pt_rf dl4) _ _ rfl _ _ hq bl0 bl4)
theorem zX7_open_58 {p : Nat → Nat} {v0 r0 : ml_M} {k24 k24' : Nat → Int32 → Int32 → Nat → Int32 → ml_M → Option Int32} (hk24 : ∀ (l0 l0' : Nat) (hl0 : pt_r p l0 l0') (l1 l1' : Int32) (hl1 : l1 = l1') (l3 l3' : Int32) (hl3 : l3 = l3') (l4 l4' : Nat) (hl4 : pt_r p l4 l4') (l5 l5' : Int32) (hl5 : l5 = l5') (m n : ml_M) (hq : pt_Q p v0 r0 m n) (bl0 : l0 ≤ ml_n m) (bl4 : l4 ≤ ml_n m), pt_T pt_Wv (k24 l0 l1 l3 l4 l5 m) (k24' l0' l1' l3' l4' l5' n)) : ∀ (l0 l0' : Nat) (hl0 : pt_r p l0 l0') (l1 l1' : Int32) (hl1 : l1 = l1') (l3 l3' : Int32) (hl3 : l3 = l3') (l4 l4' : Nat) (hl4 : pt_r p l4 l4') (l5 l5' : Int32) (hl5 : l5 = l5') (m n : ml_M) (hq : pt_Q p v0 r0 m n) (bl0 : l0 ≤ ml_n m) (bl4 : l4 ≤ ml_n m), pt_T pt_Wv (fX7_open_58 k24 l0 l1 l3 l4 l5 m) (fX7_open_58 k24' l0' l1' l3' l4' l5' n) := by
  intro l0 l0' hl0 l1 l1' hl1 l3 l3' hl3 l4 l4' hl4 l5 l5' hl5 m n hq bl0 bl4
  obtain ⟨rfl, dl0⟩ := hl0
  subst hl1
  subst hl3
  obtain ⟨rfl, dl4⟩ := hl4
  subst hl5
  unfold fX7_open_58
  exact (pt_ck (pt_kc hq (pt_rf dl4)) fun hc1267 => (pt_b1 (zX10_has _ _ (pt_I hq (pt_rf dl4) hc1267) _ _ rfl _ _ hq) fun r1268 => (pt_ite rfl (fun _ => (zX7_open_86 hk24  _ _ (pt_rf dl0) _ _ rfl _ _ rfl _ _ (pt_rf dl4) _ _ rfl _ _ hq bl0 bl4)) (fun _ => (pt_ck (pt_kc hq (pt_rf dl0)) fun hc1269 => (pt_letr (pt_R hq (pt_rf dl0) hc1269) (pt_Rb hq (pt_rf dl0) hc1269) fun a1270 d_a1270 b_a1270 => (pt_letr (pt_R hq (pt_rf dl0) hc1269) (pt_Rb hq (pt_rf dl0) hc1269) fun a1271 d_a1271 b_a1271 => (pt_ck (pt_in hq (pt_rf d_a1271) rfl) fun hi1272 => (pt_ck (pt_in hq (pt_rf d_a1270) (pt_Ia hq (pt_rf d_a1271) hi1272.1 rfl)) fun hi1273 => (pt_leti (pt_e2 (fun (a b : Int32) => a &&& b) rfl (pt_Ia hq (pt_rf d_a1270) hi1273.1 (pt_Ia hq (pt_rf d_a1271) hi1272.1 rfl))) fun x1274 => (zX7_open_86 hk24  _ _ (pt_rf dl0) _ _ rfl _ _ rfl _ _ (pt_rf dl4) _ _ rfl _ _ hq bl0 bl4)))))))))))
theorem zX7_open_24 {p : Nat → Nat} {v0 r0 : ml_M} : ∀ (fu : Nat) (l0 l0' : Nat) (hl0 : pt_r p l0 l0') (l1 l1' : Int32) (hl1 : l1 = l1') (l3 l3' : Int32) (hl3 : l3 = l3') (l4 l4' : Nat) (hl4 : pt_r p l4 l4') (l5 l5' : Int32) (hl5 : l5 = l5') (m n : ml_M) (hq : pt_Q p v0 r0 m n) (bl0 : l0 ≤ ml_n m) (bl4 : l4 ≤ ml_n m), pt_T pt_Wv (fX7_open_24 fu l0 l1 l3 l4 l5 m) (fX7_open_24 fu l0' l1' l3' l4' l5' n) := by
  intro fu
  induction fu with
  | zero => intro l0 l0' hl0 l1 l1' hl1 l3 l3' hl3 l4 l4' hl4 l5 l5' hl5 m n hq bl0 bl4; exact pt_none
  | succ fu ih =>
  intro l0 l0' hl0 l1 l1' hl1 l3 l3' hl3 l4 l4' hl4 l5 l5' hl5 m n hq bl0 bl4
  obtain ⟨rfl, dl0⟩ := hl0
  subst hl1
  subst hl3
  obtain ⟨rfl, dl4⟩ := hl4
  subst hl5
  have hk24 := ih
  unfold fX7_open_24
  exact (pt_ite rfl (fun _ => (pt_rtv rfl)) (fun _ => (pt_ck (pt_kc hq (pt_rf dl4)) fun hc1275 => (pt_b1 (zX10_has _ _ (pt_I hq (pt_rf dl4) hc1275) _ _ rfl _ _ hq) fun r1276 => (pt_ite rfl (fun _ => (zX7_open_58 hk24  _ _ (pt_rf dl0) _ _ rfl _ _ rfl _ _ (pt_rf dl4) _ _ rfl _ _ hq bl0 bl4)) (fun _ => (pt_ck (pt_kc hq (pt_rf dl0)) fun hc1277 => (pt_letr (pt_R hq (pt_rf dl0) hc1277) (pt_Rb hq (pt_rf dl0) hc1277) fun a1278 d_a1278 b_a1278 => (pt_letr (pt_R hq (pt_rf dl0) hc1277) (pt_Rb hq (pt_rf dl0) hc1277) fun a1279 d_a1279 b_a1279 => (pt_ck (pt_in hq (pt_rf d_a1279) rfl) fun hi1280 => (pt_ck (pt_in hq (pt_rf d_a1278) (pt_Ia hq (pt_rf d_a1279) hi1280.1 rfl)) fun hi1281 => (pt_leti (pt_e2 (fun (a b : Int32) => a &&& b) rfl (pt_Ia hq (pt_rf d_a1278) hi1281.1 (pt_Ia hq (pt_rf d_a1279) hi1280.1 rfl))) fun x1282 => (zX7_open_58 hk24  _ _ (pt_rf dl0) _ _ rfl _ _ rfl _ _ (pt_rf dl4) _ _ rfl _ _ hq bl0 bl4)))))))))))))
theorem zX7_open {p : Nat → Nat} {v0 r0 : ml_M} : ∀ (l0 l0' : Nat) (hl0 : pt_r p l0 l0') (l1 l1' : Int32) (hl1 : l1 = l1') (l2 l2' : Int32) (hl2 : l2 = l2') (m n : ml_M) (hq : pt_Q p v0 r0 m n) (bl0 : l0 ≤ ml_n m), pt_T pt_Wv (fX7_open l0 l1 l2 m) (fX7_open l0' l1' l2' n) := by
  intro l0 l0' hl0 l1 l1' hl1 l2 l2' hl2 m n hq bl0
  obtain ⟨rfl, dl0⟩ := hl0
  subst hl1
  subst hl2
  unfold fX7_open
  exact (pt_ck (pt_kc hq (pt_rf dl0)) fun hc1283 => (pt_leti (pt_e2 (fun (a b : Int32) => a &&& b) (pt_e2 (fun (a b : Int32) => a - b) (pt_e2 (fun (a b : Int32) => a <<< (b &&& 31)) rfl (pt_I hq (pt_rf dl0) hc1283)) rfl) rfl) fun x1284 => (pt_letr (pt_R hq (pt_rf dl0) hc1283) (pt_Rb hq (pt_rf dl0) hc1283) fun a1285 d_a1285 b_a1285 => (pt_ck (pt_in hq (pt_rf d_a1285) rfl) fun hi1286 => pt_letr (pt_Ra hq (pt_rf d_a1285) hi1286.1 rfl) (pt_Rb hq (pt_rf d_a1285) hi1286.1) fun a1287 d_a1287 b_a1287 => (zX7_open_24  ml_fu _ _ (pt_rf dl0) _ _ rfl _ _ rfl _ _ (pt_rf d_a1287) _ _ rfl _ _ hq bl0 b_a1287)))))
theorem zX7_give_91 {p : Nat → Nat} {v0 r0 : ml_M} {kr kr' : Nat → Int32 → Int32 → Int32 → ml_M → Option ml_M} (hkr : ∀ (q0 q0' : Nat) (hq0 : pt_r p q0 q0') (q1 q1' : Int32) (hq1 : q1 = q1') (q2 q2' : Int32) (hq2 : q2 = q2') (q3 q3' : Int32) (hq3 : q3 = q3') (m n : ml_M) (hq : pt_Q p m n m n) (bq0 : q0 ≤ ml_n m), pt_T (pt_WM p m n) (kr q0 q1 q2 q3 m) (kr' q0' q1' q2' q3' n)) {k34 k34' : Nat → Int32 → Int32 → Int32 → Int32 → Int32 → ml_M → Option ml_M} (hk34 : ∀ (l0 l0' : Nat) (hl0 : pt_r p l0 l0') (l1 l1' : Int32) (hl1 : l1 = l1') (l2 l2' : Int32) (hl2 : l2 = l2') (l3 l3' : Int32) (hl3 : l3 = l3') (l4 l4' : Int32) (hl4 : l4 = l4') (l5 l5' : Int32) (hl5 : l5 = l5') (m n : ml_M) (hq : pt_Q p v0 r0 m n) (bl0 : l0 ≤ ml_n m), pt_T (pt_WM p v0 r0) (k34 l0 l1 l2 l3 l4 l5 m) (k34' l0' l1' l2' l3' l4' l5' n)) : ∀ (l0 l0' : Nat) (hl0 : pt_r p l0 l0') (l1 l1' : Int32) (hl1 : l1 = l1') (l2 l2' : Int32) (hl2 : l2 = l2') (l3 l3' : Int32) (hl3 : l3 = l3') (l4 l4' : Int32) (hl4 : l4 = l4') (l5 l5' : Int32) (hl5 : l5 = l5') (m n : ml_M) (hq : pt_Q p v0 r0 m n) (bl0 : l0 ≤ ml_n m), pt_T (pt_WM p v0 r0) (fX7_give_91 kr k34 l0 l1 l2 l3 l4 l5 m) (fX7_give_91 kr' k34' l0' l1' l2' l3' l4' l5' n) := by
  intro l0 l0' hl0 l1 l1' hl1 l2 l2' hl2 l3 l3' hl3 l4 l4' hl4 l5 l5' hl5 m n hq bl0
  obtain ⟨rfl, dl0⟩ := hl0
  subst hl1
  subst hl2
  subst hl3
  subst hl4
  subst hl5
  unfold fX7_give_91
  exact (hk34 _ _ (pt_rf dl0) _ _ rfl _ _ rfl _ _ rfl _ _ rfl _ _ rfl _ _ hq bl0)
theorem zX7_give_34 {p : Nat → Nat} {v0 r0 : ml_M} {kr kr' : Nat → Int32 → Int32 → Int32 → ml_M → Option ml_M} (hkr : ∀ (q0 q0' : Nat) (hq0 : pt_r p q0 q0') (q1 q1' : Int32) (hq1 : q1 = q1') (q2 q2' : Int32) (hq2 : q2 = q2') (q3 q3' : Int32) (hq3 : q3 = q3') (m n : ml_M) (hq : pt_Q p m n m n) (bq0 : q0 ≤ ml_n m), pt_T (pt_WM p m n) (kr q0 q1 q2 q3 m) (kr' q0' q1' q2' q3' n)) : ∀ (fu : Nat) (l0 l0' : Nat) (hl0 : pt_r p l0 l0') (l1 l1' : Int32) (hl1 : l1 = l1') (l2 l2' : Int32) (hl2 : l2 = l2') (l3 l3' : Int32) (hl3 : l3 = l3') (l4 l4' : Int32) (hl4 : l4 = l4') (l5 l5' : Int32) (hl5 : l5 = l5') (m n : ml_M) (hq : pt_Q p v0 r0 m n) (bl0 : l0 ≤ ml_n m), pt_T (pt_WM p v0 r0) (fX7_give_34 kr fu l0 l1 l2 l3 l4 l5 m) (fX7_give_34 kr' fu l0' l1' l2' l3' l4' l5' n) := by
  intro fu
  induction fu with
  | zero => intro l0 l0' hl0 l1 l1' hl1 l2 l2' hl2 l3 l3' hl3 l4 l4' hl4 l5 l5' hl5 m n hq bl0; exact pt_none
  | succ fu ih =>
  intro l0 l0' hl0 l1 l1' hl1 l2 l2' hl2 l3 l3' hl3 l4 l4' hl4 l5 l5' hl5 m n hq bl0
  obtain ⟨rfl, dl0⟩ := hl0
  subst hl1
  subst hl2
  subst hl3
  subst hl4
  subst hl5
  have hk34 := ih
  unfold fX7_give_34
  exact (pt_ck (pt_kc hq (pt_rf dl0)) fun hc1288 => (pt_ite (pt_e2 (fun (a b : Int32) => b ≤ a) rfl (pt_I hq (pt_rf dl0) hc1288)) (fun _ => (pt_retM hq)) (fun _ => (pt_b1 (zX10_has _ _ rfl _ _ rfl _ _ hq) fun r1289 => (pt_ite rfl (fun _ => (zX7_give_91 hkr hk34  _ _ (pt_rf dl0) _ _ rfl _ _ rfl _ _ rfl _ _ rfl _ _ rfl _ _ hq bl0)) (fun _ => (pt_letr (pt_R hq (pt_rf dl0) hc1288) (pt_Rb hq (pt_rf dl0) hc1288) fun a1290 d_a1290 b_a1290 => (pt_ck (pt_in hq (pt_rf d_a1290) rfl) fun hi1291 => (pt_letk rfl (Nat.le_refl _) (pt_sIa hq (pt_rf d_a1290) rfl rfl) fun m1292 n1293 em1294 hn1296 hq1295 => (pt_letr (pt_R hq1295 (pt_rf dl0) (ml_kk em1294 hc1288)) (pt_Rb hq1295 (pt_rf dl0) (ml_kk em1294 hc1288)) fun a1297 d_a1297 b_a1297 => (pt_ck (pt_in hq1295 (pt_rf d_a1297) rfl) fun hi1298 => (pt_b1m hq1295 (hkr _ _ (pt_rf dl0) _ _ rfl _ _ rfl _ _ (pt_e2 (fun (a b : Int32) => a + b) rfl (pt_Ia hq1295 (pt_rf d_a1297) hi1298.1 rfl)) _ _ (pt_ref hq1295) (Nat.le_trans bl0 hn1296)) fun m1299 n1300 hn1302 hq1301 => (zX7_give_91 hkr hk34  _ _ (pt_rf dl0) _ _ rfl _ _ rfl _ _ rfl _ _ rfl _ _ rfl _ _ hq1301 (Nat.le_trans (Nat.le_trans bl0 hn1296) hn1302))))))))))))))
theorem zX7_give_b {p : Nat → Nat} {v0 r0 : ml_M} {kr kr' : Nat → Int32 → Int32 → Int32 → ml_M → Option ml_M} (hkr : ∀ (q0 q0' : Nat) (hq0 : pt_r p q0 q0') (q1 q1' : Int32) (hq1 : q1 = q1') (q2 q2' : Int32) (hq2 : q2 = q2') (q3 q3' : Int32) (hq3 : q3 = q3') (m n : ml_M) (hq : pt_Q p m n m n) (bq0 : q0 ≤ ml_n m), pt_T (pt_WM p m n) (kr q0 q1 q2 q3 m) (kr' q0' q1' q2' q3' n)) : ∀ (l0 l0' : Nat) (hl0 : pt_r p l0 l0') (l1 l1' : Int32) (hl1 : l1 = l1') (l2 l2' : Int32) (hl2 : l2 = l2') (l3 l3' : Int32) (hl3 : l3 = l3') (m n : ml_M) (hq : pt_Q p v0 r0 m n) (bl0 : l0 ≤ ml_n m), pt_T (pt_WM p v0 r0) (fX7_give_b kr l0 l1 l2 l3 m) (fX7_give_b kr' l0' l1' l2' l3' n) := by
  intro l0 l0' hl0 l1 l1' hl1 l2 l2' hl2 l3 l3' hl3 m n hq bl0
  obtain ⟨rfl, dl0⟩ := hl0
  subst hl1
  subst hl2
  subst hl3
  unfold fX7_give_b
  exact (pt_ck (pt_kc hq (pt_rf dl0)) fun hc1303 => (pt_ite (pt_e2 (fun (a b : Int32) => a < b) rfl (pt_I hq (pt_rf dl0) hc1303)) (fun _ => (pt_b1 (zX7_open _ _ (pt_rf dl0) _ _ rfl _ _ rfl _ _ hq bl0) fun r1304 => (zX7_give_34 hkr ml_fu _ _ (pt_rf dl0) _ _ rfl _ _ rfl _ _ rfl _ _ rfl _ _ rfl _ _ hq bl0))) (fun _ => (pt_letr (pt_R hq (pt_rf dl0) hc1303) (pt_Rb hq (pt_rf dl0) hc1303) fun a1305 d_a1305 b_a1305 => (pt_ck (pt_in hq (pt_rf d_a1305) rfl) fun hi1306 => (pt_ite (pt_e1 (fun (a : Int32) => a = 0) (pt_Ia hq (pt_rf d_a1305) hi1306.1 rfl)) (fun _ => (pt_retM hq)) (fun _ => (pt_b1m hq (zX7_note _ _ (pt_rf dl0) _ _ rfl _ _ (pt_ref hq) bl0) fun m1307 n1308 hn1310 hq1309 => (pt_retM hq1309)))))))))
theorem zX7_give {p : Nat → Nat} : ∀ (fu : Nat) {v0 r0 : ml_M} (l0 l0' : Nat) (hl0 : pt_r p l0 l0') (l1 l1' : Int32) (hl1 : l1 = l1') (l2 l2' : Int32) (hl2 : l2 = l2') (l3 l3' : Int32) (hl3 : l3 = l3') (m n : ml_M) (hq : pt_Q p v0 r0 m n) (bl0 : l0 ≤ ml_n m), pt_T (pt_WM p v0 r0) (fX7_give fu l0 l1 l2 l3 m) (fX7_give fu l0' l1' l2' l3' n) := by
  intro fu
  induction fu with
  | zero => intro v0 r0 l0 l0' hl0 l1 l1' hl1 l2 l2' hl2 l3 l3' hl3 m n hq bl0; exact pt_none
  | succ fu ih =>
  intro v0 r0 l0 l0' hl0 l1 l1' hl1 l2 l2' hl2 l3 l3' hl3 m n hq bl0
  exact zX7_give_b (fun l0 l0' hl0 l1 l1' hl1 l2 l2' hl2 l3 l3' hl3 m n hq bl0 => ih l0 l0' hl0 l1 l1' hl1 l2 l2' hl2 l3 l3' hl3 m n hq bl0) l0 l0' hl0 l1 l1' hl1 l2 l2' hl2 l3 l3' hl3 m n hq bl0
theorem zX7_gather_149 {p : Nat → Nat} {v0 r0 : ml_M} {k76 k76' : Nat → Int32 → ml_M → Option ml_M} (hk76 : ∀ (l0 l0' : Nat) (hl0 : pt_r p l0 l0') (l4 l4' : Int32) (hl4 : l4 = l4') (m n : ml_M) (hq : pt_Q p v0 r0 m n) (bl0 : l0 ≤ ml_n m), pt_T (pt_WM p v0 r0) (k76 l0 l4 m) (k76' l0' l4' n)) : ∀ (l0 l0' : Nat) (hl0 : pt_r p l0 l0') (l4 l4' : Int32) (hl4 : l4 = l4') (m n : ml_M) (hq : pt_Q p v0 r0 m n) (bl0 : l0 ≤ ml_n m), pt_T (pt_WM p v0 r0) (fX7_gather_149 k76 l0 l4 m) (fX7_gather_149 k76' l0' l4' n) := by
  intro l0 l0' hl0 l4 l4' hl4 m n hq bl0
  obtain ⟨rfl, dl0⟩ := hl0
  subst hl4
  unfold fX7_gather_149
  exact (hk76 _ _ (pt_rf dl0) _ _ rfl _ _ hq bl0)
theorem zX7_gather_105 {p : Nat → Nat} {v0 r0 : ml_M} {k76 k76' : Nat → Int32 → ml_M → Option ml_M} (hk76 : ∀ (l0 l0' : Nat) (hl0 : pt_r p l0 l0') (l4 l4' : Int32) (hl4 : l4 = l4') (m n : ml_M) (hq : pt_Q p v0 r0 m n) (bl0 : l0 ≤ ml_n m), pt_T (pt_WM p v0 r0) (k76 l0 l4 m) (k76' l0' l4' n)) : ∀ (fu : Nat) (l0 l0' : Nat) (hl0 : pt_r p l0 l0') (l4 l4' : Int32) (hl4 : l4 = l4') (l5 l5' : Int32) (hl5 : l5 = l5') (m n : ml_M) (hq : pt_Q p v0 r0 m n) (bl0 : l0 ≤ ml_n m), pt_T (pt_WM p v0 r0) (fX7_gather_105 k76 fu l0 l4 l5 m) (fX7_gather_105 k76' fu l0' l4' l5' n) := by
  intro fu
  induction fu with
  | zero => intro l0 l0' hl0 l4 l4' hl4 l5 l5' hl5 m n hq bl0; exact pt_none
  | succ fu ih =>
  intro l0 l0' hl0 l4 l4' hl4 l5 l5' hl5 m n hq bl0
  obtain ⟨rfl, dl0⟩ := hl0
  subst hl4
  subst hl5
  have hk105 := ih
  unfold fX7_gather_105
  exact (pt_ite rfl (fun _ => (zX7_gather_149 hk76  _ _ (pt_rf dl0) _ _ rfl _ _ hq bl0)) (fun _ => (pt_ck (pt_kc hq (pt_rf dl0)) fun hc1311 => (pt_letr (pt_R hq (pt_rf dl0) hc1311) (pt_Rb hq (pt_rf dl0) hc1311) fun a1312 d_a1312 b_a1312 => (pt_ck (pt_in hq (pt_rf d_a1312) rfl) fun hi1313 => (pt_letr (pt_R hq (pt_rf dl0) hc1311) (pt_Rb hq (pt_rf dl0) hc1311) fun a1314 d_a1314 b_a1314 => (pt_ck (pt_in hq (pt_rf d_a1314) rfl) fun hi1315 => (pt_ck (pt_in hq (pt_rf d_a1312) rfl) fun hi1316 => (pt_letk rfl (Nat.le_refl _) (pt_sIa hq (pt_rf d_a1312) rfl (pt_e2 (fun (a b : Int32) => a + b) (pt_Ia hq (pt_rf d_a1312) hi1313.1 rfl) (pt_Ia hq (pt_rf d_a1314) hi1315.1 rfl))) fun m1317 n1318 em1319 hn1321 hq1320 => (hk105 _ _ (pt_rf dl0) _ _ rfl _ _ rfl _ _ hq1320 (Nat.le_trans bl0 hn1321)))))))))))
theorem zX7_gather_155 {p : Nat → Nat} {v0 r0 : ml_M} : ∀ (l0 l0' : Nat) (hl0 : pt_r p l0 l0') (m n : ml_M) (hq : pt_Q p v0 r0 m n) (bl0 : l0 ≤ ml_n m), pt_T (pt_WM p v0 r0) (fX7_gather_155 l0 m) (fX7_gather_155 l0' n) := by
  intro l0 l0' hl0 m n hq bl0
  obtain ⟨rfl, dl0⟩ := hl0
  unfold fX7_gather_155
  exact (pt_ck (pt_kc hq (pt_rf dl0)) fun hc1322 => (pt_letk rfl (Nat.le_refl _) (pt_sI hq (pt_rf dl0) rfl) fun m1323 n1324 em1325 hn1327 hq1326 => (pt_retM hq1326)))
theorem zX7_gather_76 {p : Nat → Nat} {v0 r0 : ml_M} : ∀ (fu : Nat) (l0 l0' : Nat) (hl0 : pt_r p l0 l0') (l4 l4' : Int32) (hl4 : l4 = l4') (m n : ml_M) (hq : pt_Q p v0 r0 m n) (bl0 : l0 ≤ ml_n m), pt_T (pt_WM p v0 r0) (fX7_gather_76 fu l0 l4 m) (fX7_gather_76 fu l0' l4' n) := by
  intro fu
  induction fu with
  | zero => intro l0 l0' hl0 l4 l4' hl4 m n hq bl0; exact pt_none
  | succ fu ih =>
  intro l0 l0' hl0 l4 l4' hl4 m n hq bl0
  obtain ⟨rfl, dl0⟩ := hl0
  subst hl4
  have hk76 := ih
  unfold fX7_gather_76
  exact (pt_ite rfl (fun _ => (zX7_gather_155   _ _ (pt_rf dl0) _ _ hq bl0)) (fun _ => (pt_ck (pt_kc hq (pt_rf dl0)) fun hc1328 => (pt_letr (pt_R hq (pt_rf dl0) hc1328) (pt_Rb hq (pt_rf dl0) hc1328) fun a1329 d_a1329 b_a1329 => (pt_ck (pt_in hq (pt_rf d_a1329) rfl) fun hi1330 => (pt_letr (pt_R hq (pt_rf dl0) hc1328) (pt_Rb hq (pt_rf dl0) hc1328) fun a1331 d_a1331 b_a1331 => (pt_ck (pt_in hq (pt_rf d_a1331) rfl) fun hi1332 => (pt_ck (pt_in hq (pt_rf d_a1329) rfl) fun hi1333 => (pt_letk rfl (Nat.le_refl _) (pt_sIa hq (pt_rf d_a1329) rfl (pt_e2 (fun (a b : Int32) => a + b) (pt_Ia hq (pt_rf d_a1329) hi1330.1 rfl) (pt_Ia hq (pt_rf d_a1331) hi1332.1 rfl))) fun m1334 n1335 em1336 hn1338 hq1337 => (zX7_gather_105 hk76 ml_fu _ _ (pt_rf dl0) _ _ rfl _ _ rfl _ _ hq1337 (Nat.le_trans bl0 hn1338)))))))))))
theorem zX7_gather {p : Nat → Nat} {v0 r0 : ml_M} : ∀ (l0 l0' : Nat) (hl0 : pt_r p l0 l0') (l1 l1' : Nat) (hl1 : pt_r p l1 l1') (l2 l2' : Nat) (hl2 : pt_r p l2 l2') (l3 l3' : Int32) (hl3 : l3 = l3') (m n : ml_M) (hq : pt_Q p v0 r0 m n) (bl0 : l0 ≤ ml_n m) (bl1 : l1 ≤ ml_n m) (bl2 : l2 ≤ ml_n m), pt_T (pt_WM p v0 r0) (fX7_gather l0 l1 l2 l3 m) (fX7_gather l0' l1' l2' l3' n) := by
  intro l0 l0' hl0 l1 l1' hl1 l2 l2' hl2 l3 l3' hl3 m n hq bl0 bl1 bl2
  obtain ⟨rfl, dl0⟩ := hl0
  obtain ⟨rfl, dl1⟩ := hl1
  obtain ⟨rfl, dl2⟩ := hl2
  subst hl3
  unfold fX7_gather
  exact (pt_ck (pt_kc hq (pt_rf dl1)) fun hc1339 => (pt_letr (pt_R hq (pt_rf dl1) hc1339) (pt_Rb hq (pt_rf dl1) hc1339) fun a1340 d_a1340 b_a1340 => (pt_ck (pt_kc hq (pt_rf dl0)) fun hc1341 => (pt_letk rfl (Nat.le_refl _) (pt_sR hq (pt_rf dl0) (pt_rf d_a1340) b_a1340) fun m1342 n1343 em1344 hn1346 hq1345 => (pt_letk rfl (Nat.le_refl _) (pt_sI hq1345 (pt_rf dl0) (pt_I hq1345 (pt_rf dl1) (ml_kk em1344 hc1339))) fun m1347 n1348 em1349 hn1351 hq1350 => (pt_letk rfl (Nat.le_refl _) (pt_sI hq1350 (pt_rf dl0) (pt_I hq1350 (pt_rf dl1) (ml_kk em1349 (ml_kk em1344 hc1339)))) fun m1352 n1353 em1354 hn1356 hq1355 => (pt_letr (pt_R hq1355 (pt_rf dl1) (ml_kk em1354 (ml_kk em1349 (ml_kk em1344 hc1339)))) (pt_Rb hq1355 (pt_rf dl1) (ml_kk em1354 (ml_kk em1349 (ml_kk em1344 hc1339)))) fun a1357 d_a1357 b_a1357 => (pt_b1m hq1355 (zX7_compareYears _ _ (pt_rf dl0) _ _ (pt_rf d_a1357) _ _ (pt_ref hq1355) (Nat.le_trans (Nat.le_trans (Nat.le_trans bl0 hn1346) hn1351) hn1356) b_a1357) fun m1358 n1359 hn1361 hq1360 => (pt_ck (pt_kc hq1360 (pt_rf dl0)) fun hc1362 => (pt_b1m hq1360 (zX7_countStrangers _ _ (pt_rf dl0) _ _ (pt_rf dl2) _ _ rfl _ _ (pt_ref hq1360) (Nat.le_trans (Nat.le_trans (Nat.le_trans (Nat.le_trans bl0 hn1346) hn1351) hn1356) hn1361) (Nat.le_trans (Nat.le_trans (Nat.le_trans (Nat.le_trans bl2 hn1346) hn1351) hn1356) hn1361)) fun m1363 n1364 hn1366 hq1365 => (pt_ck (pt_kc hq1365 (pt_rf dl0)) fun hc1367 => (pt_b1m hq1365 (zX7_findCovers _ _ (pt_rf dl0) _ _ (pt_rf dl2) _ _ rfl _ _ (pt_ref hq1365) (Nat.le_trans (Nat.le_trans (Nat.le_trans (Nat.le_trans (Nat.le_trans bl0 hn1346) hn1351) hn1356) hn1361) hn1366) (Nat.le_trans (Nat.le_trans (Nat.le_trans (Nat.le_trans (Nat.le_trans bl2 hn1346) hn1351) hn1356) hn1361) hn1366)) fun m1368 n1369 hn1371 hq1370 => (pt_ck (pt_kc hq1370 (pt_rf dl0)) fun hc1372 => (pt_letk rfl (Nat.le_refl _) (pt_sI hq1370 (pt_rf dl0) rfl) fun m1373 n1374 em1375 hn1377 hq1376 => (pt_letr (pt_R hq1376 (pt_rf dl0) (ml_kk em1375 hc1372)) (pt_Rb hq1376 (pt_rf dl0) (ml_kk em1375 hc1372)) fun a1378 d_a1378 b_a1378 => (pt_b1m hq1376 (zJ7_fill_53178 _ _ (pt_rf d_a1378) _ _ rfl _ _ (pt_ref hq1376) b_a1378) fun m1379 n1380 hn1382 hq1381 => (pt_ck (pt_kc hq1381 (pt_rf dl0)) fun hc1383 => (pt_letr (pt_R hq1381 (pt_rf dl0) hc1383) (pt_Rb hq1381 (pt_rf dl0) hc1383) fun a1384 d_a1384 b_a1384 => (pt_b1m hq1381 (zJ7_fill_53178 _ _ (pt_rf d_a1384) _ _ rfl _ _ (pt_ref hq1381) b_a1384) fun m1385 n1386 hn1388 hq1387 => (pt_b1m hq1387 (zX7_give 12 _ _ (pt_rf dl0) _ _ rfl _ _ rfl _ _ rfl _ _ (pt_ref hq1387) (Nat.le_trans (Nat.le_trans (Nat.le_trans (Nat.le_trans (Nat.le_trans (Nat.le_trans (Nat.le_trans (Nat.le_trans (Nat.le_trans bl0 hn1346) hn1351) hn1356) hn1361) hn1366) hn1371) hn1377) hn1382) hn1388)) fun m1389 n1390 hn1392 hq1391 => (zX7_gather_76  ml_fu _ _ (pt_rf dl0) _ _ rfl _ _ hq1391 (Nat.le_trans (Nat.le_trans (Nat.le_trans (Nat.le_trans (Nat.le_trans (Nat.le_trans (Nat.le_trans (Nat.le_trans (Nat.le_trans (Nat.le_trans bl0 hn1346) hn1351) hn1356) hn1361) hn1366) hn1371) hn1377) hn1382) hn1388) hn1392))))))))))))))))))))))
theorem zX10_refreshSharings {p : Nat → Nat} {v0 r0 : ml_M} : ∀ (l0 l0' : Nat) (hl0 : pt_r p l0 l0') (m n : ml_M) (hq : pt_Q p v0 r0 m n) (bl0 : l0 ≤ ml_n m), pt_T (pt_WM p v0 r0) (fX10_refreshSharings l0 m) (fX10_refreshSharings l0' n) := by
  intro l0 l0' hl0 m n hq bl0
  obtain ⟨rfl, dl0⟩ := hl0
  unfold fX10_refreshSharings
  exact (pt_ck (pt_kc hq (pt_rf dl0)) fun hc1393 => (pt_letr (pt_R hq (pt_rf dl0) hc1393) (pt_Rb hq (pt_rf dl0) hc1393) fun a1394 d_a1394 b_a1394 => (pt_ck (pt_kc hq (pt_rf d_a1394)) fun hc1395 => (pt_ite (pt_e1 (fun (a : Int32) => a = 0) (pt_I hq (pt_rf d_a1394) hc1395)) (fun _ => (pt_retM hq)) (fun _ => (pt_letr (pt_R hq (pt_rf dl0) hc1393) (pt_Rb hq (pt_rf dl0) hc1393) fun a1396 d_a1396 b_a1396 => (pt_letr (pt_R hq (pt_rf dl0) hc1393) (pt_Rb hq (pt_rf dl0) hc1393) fun a1397 d_a1397 b_a1397 => (pt_letr (pt_R hq (pt_rf dl0) hc1393) (pt_Rb hq (pt_rf dl0) hc1393) fun a1398 d_a1398 b_a1398 => (pt_ck (pt_kc hq (pt_rf d_a1396)) fun hc1399 => (pt_b1m hq (zX7_gather _ _ (pt_rf d_a1396) _ _ (pt_rf d_a1397) _ _ (pt_rf d_a1398) _ _ (pt_I hq (pt_rf dl0) hc1393) _ _ (pt_ref hq) b_a1396 b_a1397 b_a1398) fun m1400 n1401 hn1403 hq1402 => (pt_retM hq1402)))))))))))
theorem zX10_share {p : Nat → Nat} {v0 r0 : ml_M} : ∀ (l0 l0' : Nat) (hl0 : pt_r p l0 l0') (l1 l1' : Int32) (hl1 : l1 = l1') (m n : ml_M) (hq : pt_Q p v0 r0 m n) (bl0 : l0 ≤ ml_n m), pt_T (pt_WV p v0 r0) (fX10_share l0 l1 m) (fX10_share l0' l1' n) := by
  intro l0 l0' hl0 l1 l1' hl1 m n hq bl0
  obtain ⟨rfl, dl0⟩ := hl0
  subst hl1
  unfold fX10_share
  exact (pt_b1 (zX10_isRow _ _ rfl _ _ hq) fun r1404 => (pt_ite rfl (fun _ => (pt_retV rfl hq)) (fun _ => (pt_ck (pt_kc hq (pt_rf dl0)) fun hc1405 => (pt_b1m hq (zX10_refreshSharings _ _ (pt_rf dl0) _ _ (pt_ref hq) bl0) fun m1406 n1407 hn1409 hq1408 => (pt_ck (pt_kc hq1408 (pt_rf dl0)) fun hc1410 => (pt_letr (pt_R hq1408 (pt_rf dl0) hc1410) (pt_Rb hq1408 (pt_rf dl0) hc1410) fun a1411 d_a1411 b_a1411 => (pt_ck (pt_kc hq1408 (pt_rf d_a1411)) fun hc1412 => (pt_ite (pt_e2 (fun (a b : Int32) => a = b) (pt_I hq1408 (pt_rf d_a1411) hc1412) rfl) (fun _ => (pt_retV rfl hq1408)) (fun _ => (pt_letr (pt_R hq1408 (pt_rf dl0) hc1410) (pt_Rb hq1408 (pt_rf dl0) hc1410) fun a1413 d_a1413 b_a1413 => (pt_letr (pt_R hq1408 (pt_rf dl0) hc1410) (pt_Rb hq1408 (pt_rf dl0) hc1410) fun a1414 d_a1414 b_a1414 => (pt_ck (pt_kc hq1408 (pt_rf d_a1414)) fun hc1415 => (pt_letr (pt_R hq1408 (pt_rf d_a1414) hc1415) (pt_Rb hq1408 (pt_rf d_a1414) hc1415) fun a1416 d_a1416 b_a1416 => (pt_letr (pt_R hq1408 (pt_rf dl0) hc1410) (pt_Rb hq1408 (pt_rf dl0) hc1410) fun a1417 d_a1417 b_a1417 => (pt_ck (pt_kc hq1408 (pt_rf d_a1417)) fun hc1418 => (pt_b2r hq1408 (zJ7_copyOf_59c91 _ _ (pt_rf d_a1416) _ _ (pt_I hq1408 (pt_rf d_a1417) hc1418) _ _ (pt_ref hq1408) b_a1416) fun a1419 m1420 n1421 d_a1419 b_a1419 hn1423 hq1422 => (pt_ck (pt_kc hq1422 (pt_rf d_a1419)) fun hc1425 => (pt_ck (pt_in hq1422 (pt_rf d_a1413) rfl) fun hi1424 => (pt_letk rfl (Nat.le_refl _) (pt_sRa hq1422 (pt_rf d_a1413) rfl (pt_rf d_a1419) b_a1419) fun m1426 n1427 em1428 hn1430 hq1429 => (pt_ck (pt_kc hq1429 (pt_rf dl0)) fun hc1431 => (pt_letr (pt_R hq1429 (pt_rf dl0) hc1431) (pt_Rb hq1429 (pt_rf dl0) hc1431) fun a1432 d_a1432 b_a1432 => (pt_ck (pt_kc hq1429 (pt_rf d_a1432)) fun hc1433 => (pt_retV (pt_I hq1429 (pt_rf d_a1432) hc1433) hq1429))))))))))))))))))))))))
theorem zX10_many {p : Nat → Nat} {v0 r0 : ml_M} : ∀ (l0 l0' : Nat) (hl0 : pt_r p l0 l0') (m n : ml_M) (hq : pt_Q p v0 r0 m n) (bl0 : l0 ≤ ml_n m), pt_T pt_Wv (fX10_many l0 m) (fX10_many l0' n) := by
  intro l0 l0' hl0 m n hq bl0
  obtain ⟨rfl, dl0⟩ := hl0
  unfold fX10_many
  exact (pt_ck (pt_kc hq (pt_rf dl0)) fun hc1434 => (pt_rtv (pt_J hq (pt_rf dl0) hc1434)))
theorem zX10_canFollow {p : Nat → Nat} {v0 r0 : ml_M} : ∀ (l0 l0' : Nat) (hl0 : pt_r p l0 l0') (l1 l1' : Int32) (hl1 : l1 = l1') (l2 l2' : Int32) (hl2 : l2 = l2') (m n : ml_M) (hq : pt_Q p v0 r0 m n) (bl0 : l0 ≤ ml_n m), pt_T pt_Wv (fX10_canFollow l0 l1 l2 m) (fX10_canFollow l0' l1' l2' n) := by
  intro l0 l0' hl0 l1 l1' hl1 l2 l2' hl2 m n hq bl0
  obtain ⟨rfl, dl0⟩ := hl0
  subst hl1
  subst hl2
  unfold fX10_canFollow
  exact (pt_b1 (zX10_has _ _ rfl _ _ rfl _ _ hq) fun r1435 => (pt_ite rfl (fun _ => (pt_ck (pt_kc hq (pt_rf dl0)) fun hc1436 => (pt_letr (pt_R hq (pt_rf dl0) hc1436) (pt_Rb hq (pt_rf dl0) hc1436) fun a1437 d_a1437 b_a1437 => (pt_ck (pt_kc hq (pt_rf d_a1437)) fun hc1438 => (pt_letr (pt_R hq (pt_rf d_a1437) hc1438) (pt_Rb hq (pt_rf d_a1437) hc1438) fun a1439 d_a1439 b_a1439 => (pt_ck (pt_in hq (pt_rf d_a1439) rfl) fun hi1440 => pt_letr (pt_Ra hq (pt_rf d_a1439) hi1440.1 rfl) (pt_Rb hq (pt_rf d_a1439) hi1440.1) fun a1441 d_a1441 b_a1441 => (pt_ck (pt_kc hq (pt_rf d_a1441)) fun hc1442 => (pt_ite (pt_e1 (fun (a : Int32) => a = 0) (pt_e2 (fun (a b : Int32) => a &&& b) (pt_I hq (pt_rf d_a1441) hc1442) rfl)) (fun _ => (pt_rtv rfl)) (fun _ => (pt_rtv rfl)))))))))) (fun _ => (pt_rtv rfl))))
theorem zX10_firstToFollow_2 {p : Nat → Nat} {v0 r0 : ml_M} : ∀ (fu : Nat) (l0 l0' : Nat) (hl0 : pt_r p l0 l0') (l1 l1' : Int32) (hl1 : l1 = l1') (l2 l2' : Int32) (hl2 : l2 = l2') (m n : ml_M) (hq : pt_Q p v0 r0 m n) (bl0 : l0 ≤ ml_n m), pt_T pt_Wv (fX10_firstToFollow_2 fu l0 l1 l2 m) (fX10_firstToFollow_2 fu l0' l1' l2' n) := by
  intro fu
  induction fu with
  | zero => intro l0 l0' hl0 l1 l1' hl1 l2 l2' hl2 m n hq bl0; exact pt_none
  | succ fu ih =>
  intro l0 l0' hl0 l1 l1' hl1 l2 l2' hl2 m n hq bl0
  obtain ⟨rfl, dl0⟩ := hl0
  subst hl1
  subst hl2
  have hk2 := ih
  unfold fX10_firstToFollow_2
  exact (pt_ck (pt_kc hq (pt_rf dl0)) fun hc1443 => (pt_letr (pt_R hq (pt_rf dl0) hc1443) (pt_Rb hq (pt_rf dl0) hc1443) fun a1444 d_a1444 b_a1444 => (pt_ck (pt_kc hq (pt_rf d_a1444)) fun hc1445 => (pt_ite (pt_e2 (fun (a b : Int32) => b ≤ a) rfl (pt_I hq (pt_rf d_a1444) hc1445)) (fun _ => (pt_rtv rfl)) (fun _ => (pt_b1 (zX10_canFollow _ _ (pt_rf dl0) _ _ rfl _ _ rfl _ _ hq bl0) fun r1446 => (pt_ite rfl (fun _ => (hk2 _ _ (pt_rf dl0) _ _ rfl _ _ rfl _ _ hq bl0)) (fun _ => (pt_rtv rfl)))))))))
theorem zX10_firstToFollow {p : Nat → Nat} {v0 r0 : ml_M} : ∀ (l0 l0' : Nat) (hl0 : pt_r p l0 l0') (l1 l1' : Int32) (hl1 : l1 = l1') (m n : ml_M) (hq : pt_Q p v0 r0 m n) (bl0 : l0 ≤ ml_n m), pt_T pt_Wv (fX10_firstToFollow l0 l1 m) (fX10_firstToFollow l0' l1' n) := by
  intro l0 l0' hl0 l1 l1' hl1 m n hq bl0
  obtain ⟨rfl, dl0⟩ := hl0
  subst hl1
  unfold fX10_firstToFollow
  exact (zX10_firstToFollow_2  ml_fu _ _ (pt_rf dl0) _ _ rfl _ _ rfl _ _ hq bl0)
theorem zX10_ordersOfAll_63 {p : Nat → Nat} {v0 r0 : ml_M} {k26 k26' : Nat → Int32 → Nat → Int32 → ml_M → Option (Int32 × ml_M)} (hk26 : ∀ (l0 l0' : Nat) (hl0 : pt_r p l0 l0') (l1 l1' : Int32) (hl1 : l1 = l1') (l2 l2' : Nat) (hl2 : pt_r p l2 l2') (l3 l3' : Int32) (hl3 : l3 = l3') (m n : ml_M) (hq : pt_Q p v0 r0 m n) (bl0 : l0 ≤ ml_n m) (bl2 : l2 ≤ ml_n m), pt_T (pt_WV p v0 r0) (k26 l0 l1 l2 l3 m) (k26' l0' l1' l2' l3' n)) {k33 k33' : Nat → Int32 → Nat → Int32 → Int32 → ml_M → Option (Int32 × ml_M)} (hk33 : ∀ (l0 l0' : Nat) (hl0 : pt_r p l0 l0') (l1 l1' : Int32) (hl1 : l1 = l1') (l2 l2' : Nat) (hl2 : pt_r p l2 l2') (l3 l3' : Int32) (hl3 : l3 = l3') (l4 l4' : Int32) (hl4 : l4 = l4') (m n : ml_M) (hq : pt_Q p v0 r0 m n) (bl0 : l0 ≤ ml_n m) (bl2 : l2 ≤ ml_n m), pt_T (pt_WV p v0 r0) (k33 l0 l1 l2 l3 l4 m) (k33' l0' l1' l2' l3' l4' n)) : ∀ (l0 l0' : Nat) (hl0 : pt_r p l0 l0') (l1 l1' : Int32) (hl1 : l1 = l1') (l2 l2' : Nat) (hl2 : pt_r p l2 l2') (l3 l3' : Int32) (hl3 : l3 = l3') (l4 l4' : Int32) (hl4 : l4 = l4') (m n : ml_M) (hq : pt_Q p v0 r0 m n) (bl0 : l0 ≤ ml_n m) (bl2 : l2 ≤ ml_n m), pt_T (pt_WV p v0 r0) (fX10_ordersOfAll_63 k26 k33 l0 l1 l2 l3 l4 m) (fX10_ordersOfAll_63 k26' k33' l0' l1' l2' l3' l4' n) := by
  intro l0 l0' hl0 l1 l1' hl1 l2 l2' hl2 l3 l3' hl3 l4 l4' hl4 m n hq bl0 bl2
  obtain ⟨rfl, dl0⟩ := hl0
  subst hl1
  obtain ⟨rfl, dl2⟩ := hl2
  subst hl3
  subst hl4
  unfold fX10_ordersOfAll_63
  exact (hk33 _ _ (pt_rf dl0) _ _ rfl _ _ (pt_rf dl2) _ _ rfl _ _ rfl _ _ hq bl0 bl2)
theorem zX10_ordersOfAll_69 {p : Nat → Nat} {v0 r0 : ml_M} {k26 k26' : Nat → Int32 → Nat → Int32 → ml_M → Option (Int32 × ml_M)} (hk26 : ∀ (l0 l0' : Nat) (hl0 : pt_r p l0 l0') (l1 l1' : Int32) (hl1 : l1 = l1') (l2 l2' : Nat) (hl2 : pt_r p l2 l2') (l3 l3' : Int32) (hl3 : l3 = l3') (m n : ml_M) (hq : pt_Q p v0 r0 m n) (bl0 : l0 ≤ ml_n m) (bl2 : l2 ≤ ml_n m), pt_T (pt_WV p v0 r0) (k26 l0 l1 l2 l3 m) (k26' l0' l1' l2' l3' n)) : ∀ (l0 l0' : Nat) (hl0 : pt_r p l0 l0') (l1 l1' : Int32) (hl1 : l1 = l1') (l2 l2' : Nat) (hl2 : pt_r p l2 l2') (l3 l3' : Int32) (hl3 : l3 = l3') (m n : ml_M) (hq : pt_Q p v0 r0 m n) (bl0 : l0 ≤ ml_n m) (bl2 : l2 ≤ ml_n m), pt_T (pt_WV p v0 r0) (fX10_ordersOfAll_69 k26 l0 l1 l2 l3 m) (fX10_ordersOfAll_69 k26' l0' l1' l2' l3' n) := by
  intro l0 l0' hl0 l1 l1' hl1 l2 l2' hl2 l3 l3' hl3 m n hq bl0 bl2
  obtain ⟨rfl, dl0⟩ := hl0
  subst hl1
  obtain ⟨rfl, dl2⟩ := hl2
  subst hl3
  unfold fX10_ordersOfAll_69
  exact (hk26 _ _ (pt_rf dl0) _ _ rfl _ _ (pt_rf dl2) _ _ rfl _ _ hq bl0 bl2)
theorem zX10_ordersOfAll_33 {p : Nat → Nat} {v0 r0 : ml_M} {k26 k26' : Nat → Int32 → Nat → Int32 → ml_M → Option (Int32 × ml_M)} (hk26 : ∀ (l0 l0' : Nat) (hl0 : pt_r p l0 l0') (l1 l1' : Int32) (hl1 : l1 = l1') (l2 l2' : Nat) (hl2 : pt_r p l2 l2') (l3 l3' : Int32) (hl3 : l3 = l3') (m n : ml_M) (hq : pt_Q p v0 r0 m n) (bl0 : l0 ≤ ml_n m) (bl2 : l2 ≤ ml_n m), pt_T (pt_WV p v0 r0) (k26 l0 l1 l2 l3 m) (k26' l0' l1' l2' l3' n)) : ∀ (fu : Nat) (l0 l0' : Nat) (hl0 : pt_r p l0 l0') (l1 l1' : Int32) (hl1 : l1 = l1') (l2 l2' : Nat) (hl2 : pt_r p l2 l2') (l3 l3' : Int32) (hl3 : l3 = l3') (l4 l4' : Int32) (hl4 : l4 = l4') (m n : ml_M) (hq : pt_Q p v0 r0 m n) (bl0 : l0 ≤ ml_n m) (bl2 : l2 ≤ ml_n m), pt_T (pt_WV p v0 r0) (fX10_ordersOfAll_33 k26 fu l0 l1 l2 l3 l4 m) (fX10_ordersOfAll_33 k26' fu l0' l1' l2' l3' l4' n) := by
  intro fu
  induction fu with
  | zero => intro l0 l0' hl0 l1 l1' hl1 l2 l2' hl2 l3 l3' hl3 l4 l4' hl4 m n hq bl0 bl2; exact pt_none
  | succ fu ih =>
  intro l0 l0' hl0 l1 l1' hl1 l2 l2' hl2 l3 l3' hl3 l4 l4' hl4 m n hq bl0 bl2
  obtain ⟨rfl, dl0⟩ := hl0
  subst hl1
  obtain ⟨rfl, dl2⟩ := hl2
  subst hl3
  subst hl4
  have hk33 := ih
  unfold fX10_ordersOfAll_33
  exact (pt_ite rfl (fun _ => (zX10_ordersOfAll_69 hk26  _ _ (pt_rf dl0) _ _ rfl _ _ (pt_rf dl2) _ _ rfl _ _ hq bl0 bl2)) (fun _ => (pt_ck (pt_kc hq (pt_rf dl0)) fun hc1447 => (pt_b1 (zX10_canFollow _ _ (pt_rf dl0) _ _ rfl _ _ rfl _ _ hq bl0) fun r1448 => (pt_ite rfl (fun _ => (zX10_ordersOfAll_63 hk26 hk33  _ _ (pt_rf dl0) _ _ rfl _ _ (pt_rf dl2) _ _ rfl _ _ rfl _ _ hq bl0 bl2)) (fun _ => (pt_ck (pt_in hq (pt_rf dl2) rfl) fun hi1449 => (pt_ck (pt_in hq (pt_rf dl2) rfl) fun hi1450 => (pt_ck (pt_in hq (pt_rf dl2) rfl) fun hi1451 => (pt_letk rfl (Nat.le_refl _) (pt_sIa hq (pt_rf dl2) rfl (pt_e2 (fun (a b : Int32) => a + b) (pt_Ia hq (pt_rf dl2) hi1449.1 rfl) (pt_Ia hq (pt_rf dl2) hi1450.1 rfl))) fun m1452 n1453 em1454 hn1456 hq1455 => (zX10_ordersOfAll_63 hk26 hk33  _ _ (pt_rf dl0) _ _ rfl _ _ (pt_rf dl2) _ _ rfl _ _ rfl _ _ hq1455 (Nat.le_trans bl0 hn1456) (Nat.le_trans bl2 hn1456))))))))))))
theorem zX10_ordersOfAll_75 {p : Nat → Nat} {v0 r0 : ml_M} : ∀ (l2 l2' : Nat) (hl2 : pt_r p l2 l2') (m n : ml_M) (hq : pt_Q p v0 r0 m n) (bl2 : l2 ≤ ml_n m), pt_T (pt_WV p v0 r0) (fX10_ordersOfAll_75 l2 m) (fX10_ordersOfAll_75 l2' n) := by
  intro l2 l2' hl2 m n hq bl2
  obtain ⟨rfl, dl2⟩ := hl2
  unfold fX10_ordersOfAll_75
  exact (pt_ck (pt_in hq (pt_rf dl2) rfl) fun hi1457 => (pt_retV (pt_Ia hq (pt_rf dl2) hi1457.1 rfl) hq))
theorem zX10_ordersOfAll_26 {p : Nat → Nat} {v0 r0 : ml_M} : ∀ (fu : Nat) (l0 l0' : Nat) (hl0 : pt_r p l0 l0') (l1 l1' : Int32) (hl1 : l1 = l1') (l2 l2' : Nat) (hl2 : pt_r p l2 l2') (l3 l3' : Int32) (hl3 : l3 = l3') (m n : ml_M) (hq : pt_Q p v0 r0 m n) (bl0 : l0 ≤ ml_n m) (bl2 : l2 ≤ ml_n m), pt_T (pt_WV p v0 r0) (fX10_ordersOfAll_26 fu l0 l1 l2 l3 m) (fX10_ordersOfAll_26 fu l0' l1' l2' l3' n) := by
  intro fu
  induction fu with
  | zero => intro l0 l0' hl0 l1 l1' hl1 l2 l2' hl2 l3 l3' hl3 m n hq bl0 bl2; exact pt_none
  | succ fu ih =>
  intro l0 l0' hl0 l1 l1' hl1 l2 l2' hl2 l3 l3' hl3 m n hq bl0 bl2
  obtain ⟨rfl, dl0⟩ := hl0
  subst hl1
  obtain ⟨rfl, dl2⟩ := hl2
  subst hl3
  have hk26 := ih
  unfold fX10_ordersOfAll_26
  exact (pt_ite rfl (fun _ => (zX10_ordersOfAll_75   _ _ (pt_rf dl2) _ _ hq bl2)) (fun _ => (zX10_ordersOfAll_33 hk26 ml_fu _ _ (pt_rf dl0) _ _ rfl _ _ (pt_rf dl2) _ _ rfl _ _ rfl _ _ hq bl0 bl2)))
theorem zX10_ordersOfAll {p : Nat → Nat} {v0 r0 : ml_M} : ∀ (l0 l0' : Nat) (hl0 : pt_r p l0 l0') (m n : ml_M) (hq : pt_Q p v0 r0 m n) (bl0 : l0 ≤ ml_n m), pt_T (pt_WV p v0 r0) (fX10_ordersOfAll l0 m) (fX10_ordersOfAll l0' n) := by
  intro l0 l0' hl0 m n hq bl0
  obtain ⟨rfl, dl0⟩ := hl0
  unfold fX10_ordersOfAll
  exact (pt_ck (pt_kc hq (pt_rf dl0)) fun hc1458 => (pt_letr (pt_R hq (pt_rf dl0) hc1458) (pt_Rb hq (pt_rf dl0) hc1458) fun a1459 d_a1459 b_a1459 => (pt_ck (pt_kc hq (pt_rf d_a1459)) fun hc1460 => (pt_leti (pt_I hq (pt_rf d_a1459) hc1460) fun x1461 => (pt_ck (pt_lenc rfl) fun _ => (pt_al hq rfl rfl fun a1462 m1463 n1464 d_a1462 b_a1462 hn1467 hc1465 hq1466 => (pt_ck (pt_in hq1466 (pt_rf d_a1462) (pt_e2 (fun (a b : Int32) => a - b) (pt_len hq1466 (pt_rf d_a1462)) rfl)) fun hi1468 => (pt_letk rfl (Nat.le_refl _) (pt_sIa hq1466 (pt_rf d_a1462) (pt_e2 (fun (a b : Int32) => a - b) (pt_len hq1466 (pt_rf d_a1462)) rfl) rfl) fun m1469 n1470 em1471 hn1473 hq1472 => (pt_leti (pt_e2 (fun (a b : Int32) => a - b) (pt_len hq1472 (pt_rf d_a1462)) rfl) fun x1474 => (zX10_ordersOfAll_26  ml_fu _ _ (pt_rf dl0) _ _ rfl _ _ (pt_rf d_a1462) _ _ rfl _ _ hq1472 (Nat.le_trans (Nat.le_trans bl0 hn1467) hn1473) (Nat.le_trans b_a1462 hn1473)))))))))))
theorem zX10_piling_67 {p : Nat → Nat} {v0 r0 : ml_M} : ∀ (l0 l0' : Nat) (hl0 : pt_r p l0 l0') (l1 l1' : Int32) (hl1 : l1 = l1') (l2 l2' : Nat) (hl2 : pt_r p l2 l2') (m n : ml_M) (hq : pt_Q p v0 r0 m n) (bl0 : l0 ≤ ml_n m) (bl2 : l2 ≤ ml_n m), pt_T (pt_WV p v0 r0) (fX10_piling_67 l0 l1 l2 m) (fX10_piling_67 l0' l1' l2' n) := by
  intro l0 l0' hl0 l1 l1' hl1 l2 l2' hl2 m n hq bl0 bl2
  obtain ⟨rfl, dl0⟩ := hl0
  subst hl1
  obtain ⟨rfl, dl2⟩ := hl2
  unfold fX10_piling_67
  exact (pt_ck (pt_kc hq (pt_rf dl0)) fun hc1475 => (pt_letr (pt_R hq (pt_rf dl0) hc1475) (pt_Rb hq (pt_rf dl0) hc1475) fun a1476 d_a1476 b_a1476 => (pt_ck (pt_kc hq (pt_rf dl2)) fun hc1478 => (pt_ck (pt_in hq (pt_rf d_a1476) rfl) fun hi1477 => (pt_letk rfl (Nat.le_refl _) (pt_sRa hq (pt_rf d_a1476) rfl (pt_rf dl2) bl2) fun m1479 n1480 em1481 hn1483 hq1482 => (pt_b2 hq1482 (zX10_ordersOfAll _ _ (pt_rf dl0) _ _ (pt_ref hq1482) (Nat.le_trans bl0 hn1483)) fun r1484 m1485 n1486 hn1488 hq1487 => (pt_retV rfl hq1487)))))))
theorem zX10_piling_24 {p : Nat → Nat} {v0 r0 : ml_M} : ∀ (fu : Nat) (l0 l0' : Nat) (hl0 : pt_r p l0 l0') (l1 l1' : Int32) (hl1 : l1 = l1') (l2 l2' : Nat) (hl2 : pt_r p l2 l2') (l3 l3' : Int32) (hl3 : l3 = l3') (l4 l4' : Int32) (hl4 : l4 = l4') (m n : ml_M) (hq : pt_Q p v0 r0 m n) (bl0 : l0 ≤ ml_n m) (bl2 : l2 ≤ ml_n m), pt_T (pt_WV p v0 r0) (fX10_piling_24 fu l0 l1 l2 l3 l4 m) (fX10_piling_24 fu l0' l1' l2' l3' l4' n) := by
  intro fu
  induction fu with
  | zero => intro l0 l0' hl0 l1 l1' hl1 l2 l2' hl2 l3 l3' hl3 l4 l4' hl4 m n hq bl0 bl2; exact pt_none
  | succ fu ih =>
  intro l0 l0' hl0 l1 l1' hl1 l2 l2' hl2 l3 l3' hl3 l4 l4' hl4 m n hq bl0 bl2
  obtain ⟨rfl, dl0⟩ := hl0
  subst hl1
  obtain ⟨rfl, dl2⟩ := hl2
  subst hl3
  subst hl4
  have hk24 := ih
  unfold fX10_piling_24
  exact (pt_ck (pt_kc hq (pt_rf dl2)) fun hc1489 => (pt_ite (pt_e2 (fun (a b : Int32) => b ≤ a) rfl (pt_len hq (pt_rf dl2))) (fun _ => (zX10_piling_67   _ _ (pt_rf dl0) _ _ rfl _ _ (pt_rf dl2) _ _ hq bl0 bl2)) (fun _ => (pt_ck (pt_kc hq (pt_rf dl0)) fun hc1490 => (pt_b1 (zX10_firstToFollow _ _ (pt_rf dl0) _ _ rfl _ _ hq bl0) fun r1491 => (pt_ite rfl (fun _ => (pt_retV rfl hq)) (fun _ => (pt_ck (pt_in hq (pt_rf dl2) rfl) fun hi1492 => (pt_letk rfl (Nat.le_refl _) (pt_sIa hq (pt_rf dl2) rfl rfl) fun m1493 n1494 em1495 hn1497 hq1496 => (pt_leti rfl fun x1498 => (hk24 _ _ (pt_rf dl0) _ _ rfl _ _ (pt_rf dl2) _ _ rfl _ _ rfl _ _ hq1496 (Nat.le_trans bl0 hn1497) (Nat.le_trans bl2 hn1497))))))))))))
theorem zX10_piling {p : Nat → Nat} {v0 r0 : ml_M} : ∀ (l0 l0' : Nat) (hl0 : pt_r p l0 l0') (l1 l1' : Int32) (hl1 : l1 = l1') (m n : ml_M) (hq : pt_Q p v0 r0 m n) (bl0 : l0 ≤ ml_n m), pt_T (pt_WV p v0 r0) (fX10_piling l0 l1 m) (fX10_piling l0' l1' n) := by
  intro l0 l0' hl0 l1 l1' hl1 m n hq bl0
  obtain ⟨rfl, dl0⟩ := hl0
  subst hl1
  unfold fX10_piling
  exact (pt_b1 (zX10_isRow _ _ rfl _ _ hq) fun r1499 => (pt_ite rfl (fun _ => (pt_retV rfl hq)) (fun _ => (pt_ck (pt_kc hq (pt_rf dl0)) fun hc1500 => (pt_letr (pt_R hq (pt_rf dl0) hc1500) (pt_Rb hq (pt_rf dl0) hc1500) fun a1501 d_a1501 b_a1501 => (pt_ck (pt_kc hq (pt_rf d_a1501)) fun hc1502 => (pt_ck (pt_lenc (pt_I hq (pt_rf d_a1501) hc1502)) fun _ => (pt_al hq (pt_e1 (fun (a : Int32) => a.toNatClampNeg) (pt_I hq (pt_rf d_a1501) hc1502)) (pt_e1 (fun (a : Int32) => a.toNatClampNeg) (pt_I hq (pt_rf d_a1501) hc1502)) fun a1503 m1504 n1505 d_a1503 b_a1503 hn1508 hc1506 hq1507 => (zX10_piling_24  ml_fu _ _ (pt_rf dl0) _ _ rfl _ _ (pt_rf d_a1503) _ _ rfl _ _ rfl _ _ hq1507 (Nat.le_trans bl0 hn1508) b_a1503)))))))))
theorem zX10_strange_83 {p : Nat → Nat} {v0 r0 : ml_M} {k7 k7' : Nat → Int32 → Int32 → Int32 → ml_M → Option (Int32 × ml_M)} (hk7 : ∀ (l0 l0' : Nat) (hl0 : pt_r p l0 l0') (l1 l1' : Int32) (hl1 : l1 = l1') (l2 l2' : Int32) (hl2 : l2 = l2') (l3 l3' : Int32) (hl3 : l3 = l3') (m n : ml_M) (hq : pt_Q p v0 r0 m n) (bl0 : l0 ≤ ml_n m), pt_T (pt_WV p v0 r0) (k7 l0 l1 l2 l3 m) (k7' l0' l1' l2' l3' n)) : ∀ (l0 l0' : Nat) (hl0 : pt_r p l0 l0') (l1 l1' : Int32) (hl1 : l1 = l1') (l2 l2' : Int32) (hl2 : l2 = l2') (l3 l3' : Int32) (hl3 : l3 = l3') (m n : ml_M) (hq : pt_Q p v0 r0 m n) (bl0 : l0 ≤ ml_n m), pt_T (pt_WV p v0 r0) (fX10_strange_83 k7 l0 l1 l2 l3 m) (fX10_strange_83 k7' l0' l1' l2' l3' n) := by
  intro l0 l0' hl0 l1 l1' hl1 l2 l2' hl2 l3 l3' hl3 m n hq bl0
  obtain ⟨rfl, dl0⟩ := hl0
  subst hl1
  subst hl2
  subst hl3
  unfold fX10_strange_83
  exact (hk7 _ _ (pt_rf dl0) _ _ rfl _ _ rfl _ _ rfl _ _ hq bl0)
theorem zX10_strange_80 {p : Nat → Nat} {v0 r0 : ml_M} {k7 k7' : Nat → Int32 → Int32 → Int32 → ml_M → Option (Int32 × ml_M)} (hk7 : ∀ (l0 l0' : Nat) (hl0 : pt_r p l0 l0') (l1 l1' : Int32) (hl1 : l1 = l1') (l2 l2' : Int32) (hl2 : l2 = l2') (l3 l3' : Int32) (hl3 : l3 = l3') (m n : ml_M) (hq : pt_Q p v0 r0 m n) (bl0 : l0 ≤ ml_n m), pt_T (pt_WV p v0 r0) (k7 l0 l1 l2 l3 m) (k7' l0' l1' l2' l3' n)) : ∀ (l0 l0' : Nat) (hl0 : pt_r p l0 l0') (l1 l1' : Int32) (hl1 : l1 = l1') (l2 l2' : Int32) (hl2 : l2 = l2') (l3 l3' : Int32) (hl3 : l3 = l3') (m n : ml_M) (hq : pt_Q p v0 r0 m n) (bl0 : l0 ≤ ml_n m), pt_T (pt_WV p v0 r0) (fX10_strange_80 k7 l0 l1 l2 l3 m) (fX10_strange_80 k7' l0' l1' l2' l3' n) := by
  intro l0 l0' hl0 l1 l1' hl1 l2 l2' hl2 l3 l3' hl3 m n hq bl0
  obtain ⟨rfl, dl0⟩ := hl0
  subst hl1
  subst hl2
  subst hl3
  unfold fX10_strange_80
  exact (zX10_strange_83 hk7  _ _ (pt_rf dl0) _ _ rfl _ _ rfl _ _ rfl _ _ hq bl0)
theorem zX10_strange_89 {p : Nat → Nat} {v0 r0 : ml_M} : ∀ (l0 l0' : Nat) (hl0 : pt_r p l0 l0') (l1 l1' : Int32) (hl1 : l1 = l1') (l2 l2' : Int32) (hl2 : l2 = l2') (m n : ml_M) (hq : pt_Q p v0 r0 m n) (bl0 : l0 ≤ ml_n m), pt_T (pt_WV p v0 r0) (fX10_strange_89 l0 l1 l2 m) (fX10_strange_89 l0' l1' l2' n) := by
  intro l0 l0' hl0 l1 l1' hl1 l2 l2' hl2 m n hq bl0
  obtain ⟨rfl, dl0⟩ := hl0
  subst hl1
  subst hl2
  unfold fX10_strange_89
  exact (pt_ck (pt_kc hq (pt_rf dl0)) fun hc1509 => (pt_letk rfl (Nat.le_refl _) (pt_sI hq (pt_rf dl0) rfl) fun m1510 n1511 em1512 hn1514 hq1513 => (pt_retV rfl hq1513)))
theorem zX10_strange_7 {p : Nat → Nat} {v0 r0 : ml_M} : ∀ (fu : Nat) (l0 l0' : Nat) (hl0 : pt_r p l0 l0') (l1 l1' : Int32) (hl1 : l1 = l1') (l2 l2' : Int32) (hl2 : l2 = l2') (l3 l3' : Int32) (hl3 : l3 = l3') (m n : ml_M) (hq : pt_Q p v0 r0 m n) (bl0 : l0 ≤ ml_n m), pt_T (pt_WV p v0 r0) (fX10_strange_7 fu l0 l1 l2 l3 m) (fX10_strange_7 fu l0' l1' l2' l3' n) := by
  intro fu
  induction fu with
  | zero => intro l0 l0' hl0 l1 l1' hl1 l2 l2' hl2 l3 l3' hl3 m n hq bl0; exact pt_none
  | succ fu ih =>
  intro l0 l0' hl0 l1 l1' hl1 l2 l2' hl2 l3 l3' hl3 m n hq bl0
  obtain ⟨rfl, dl0⟩ := hl0
  subst hl1
  subst hl2
  subst hl3
  have hk7 := ih
  unfold fX10_strange_7
  exact (pt_ck (pt_kc hq (pt_rf dl0)) fun hc1515 => (pt_ite (pt_e2 (fun (a b : Int32) => b ≤ a) rfl (pt_I hq (pt_rf dl0) hc1515)) (fun _ => (zX10_strange_89   _ _ (pt_rf dl0) _ _ rfl _ _ rfl _ _ hq bl0)) (fun _ => (pt_letr (pt_R hq (pt_rf dl0) hc1515) (pt_Rb hq (pt_rf dl0) hc1515) fun a1516 d_a1516 b_a1516 => (pt_ck (pt_in hq (pt_rf d_a1516) rfl) fun hi1517 => pt_letr (pt_Ra hq (pt_rf d_a1516) hi1517.1 rfl) (pt_Rb hq (pt_rf d_a1516) hi1517.1) fun a1518 d_a1518 b_a1518 => (pt_ck (pt_kc hq (pt_rf d_a1518)) fun hc1519 => (pt_ite (pt_e2 (fun (a b : Int32) => a = b) (pt_I hq (pt_rf d_a1518) hc1519) rfl) (fun _ => (pt_ite (pt_e2 (fun (a b : Int32) => a = b) (pt_I hq (pt_rf d_a1518) hc1519) rfl) (fun _ => (zX10_strange_83 hk7  _ _ (pt_rf dl0) _ _ rfl _ _ rfl _ _ rfl _ _ hq bl0)) (fun _ => (pt_b1 (zX10_opened _ _ (pt_rf dl0) _ _ (pt_rf d_a1518) _ _ hq bl0 b_a1518) fun r1520 => (pt_ite rfl (fun _ => (zX10_strange_83 hk7  _ _ (pt_rf dl0) _ _ rfl _ _ rfl _ _ rfl _ _ hq bl0)) (fun _ => (pt_b1 (zX10_has _ _ rfl _ _ (pt_I hq (pt_rf d_a1518) hc1519) _ _ hq) fun r1521 => (pt_ite rfl (fun _ => (pt_ite rfl (fun _ => (zX10_strange_80 hk7  _ _ (pt_rf dl0) _ _ rfl _ _ rfl _ _ rfl _ _ hq bl0)) (fun _ => (zX10_strange_80 hk7  _ _ (pt_rf dl0) _ _ rfl _ _ rfl _ _ rfl _ _ hq bl0)))) (fun _ => (zX10_strange_83 hk7  _ _ (pt_rf dl0) _ _ rfl _ _ rfl _ _ rfl _ _ hq bl0)))))))))) (fun _ => (zX10_strange_83 hk7  _ _ (pt_rf dl0) _ _ rfl _ _ rfl _ _ rfl _ _ hq bl0)))))))))
theorem zX10_strange {p : Nat → Nat} {v0 r0 : ml_M} : ∀ (l0 l0' : Nat) (hl0 : pt_r p l0 l0') (m n : ml_M) (hq : pt_Q p v0 r0 m n) (bl0 : l0 ≤ ml_n m), pt_T (pt_WV p v0 r0) (fX10_strange l0 m) (fX10_strange l0' n) := by
  intro l0 l0' hl0 m n hq bl0
  obtain ⟨rfl, dl0⟩ := hl0
  unfold fX10_strange
  exact (zX10_strange_7  ml_fu _ _ (pt_rf dl0) _ _ rfl _ _ rfl _ _ rfl _ _ hq bl0)
theorem zX3_gather_56 {p : Nat → Nat} {v0 r0 : ml_M} {k6 k6' : Nat → Nat → Int32 → Int32 → Int32 → Int32 → ml_M → Option (Int32 × ml_M)} (hk6 : ∀ (l0 l0' : Nat) (hl0 : pt_r p l0 l0') (l1 l1' : Nat) (hl1 : pt_r p l1 l1') (l2 l2' : Int32) (hl2 : l2 = l2') (l3 l3' : Int32) (hl3 : l3 = l3') (l4 l4' : Int32) (hl4 : l4 = l4') (l5 l5' : Int32) (hl5 : l5 = l5') (m n : ml_M) (hq : pt_Q p v0 r0 m n) (bl0 : l0 ≤ ml_n m) (bl1 : l1 ≤ ml_n m), pt_T (pt_WV p v0 r0) (k6 l0 l1 l2 l3 l4 l5 m) (k6' l0' l1' l2' l3' l4' l5' n)) : ∀ (l0 l0' : Nat) (hl0 : pt_r p l0 l0') (l1 l1' : Nat) (hl1 : pt_r p l1 l1') (l2 l2' : Int32) (hl2 : l2 = l2') (l3 l3' : Int32) (hl3 : l3 = l3') (l4 l4' : Int32) (hl4 : l4 = l4') (l5 l5' : Int32) (hl5 : l5 = l5') (m n : ml_M) (hq : pt_Q p v0 r0 m n) (bl0 : l0 ≤ ml_n m) (bl1 : l1 ≤ ml_n m), pt_T (pt_WV p v0 r0) (fX3_gather_56 k6 l0 l1 l2 l3 l4 l5 m) (fX3_gather_56 k6' l0' l1' l2' l3' l4' l5' n) := by
  intro l0 l0' hl0 l1 l1' hl1 l2 l2' hl2 l3 l3' hl3 l4 l4' hl4 l5 l5' hl5 m n hq bl0 bl1
  obtain ⟨rfl, dl0⟩ := hl0
  obtain ⟨rfl, dl1⟩ := hl1
  subst hl2
  subst hl3
  subst hl4
  subst hl5
  unfold fX3_gather_56
  exact (hk6 _ _ (pt_rf dl0) _ _ (pt_rf dl1) _ _ rfl _ _ rfl _ _ rfl _ _ rfl _ _ hq bl0 bl1)
theorem zX3_gather_53 {p : Nat → Nat} {v0 r0 : ml_M} {k6 k6' : Nat → Nat → Int32 → Int32 → Int32 → Int32 → ml_M → Option (Int32 × ml_M)} (hk6 : ∀ (l0 l0' : Nat) (hl0 : pt_r p l0 l0') (l1 l1' : Nat) (hl1 : pt_r p l1 l1') (l2 l2' : Int32) (hl2 : l2 = l2') (l3 l3' : Int32) (hl3 : l3 = l3') (l4 l4' : Int32) (hl4 : l4 = l4') (l5 l5' : Int32) (hl5 : l5 = l5') (m n : ml_M) (hq : pt_Q p v0 r0 m n) (bl0 : l0 ≤ ml_n m) (bl1 : l1 ≤ ml_n m), pt_T (pt_WV p v0 r0) (k6 l0 l1 l2 l3 l4 l5 m) (k6' l0' l1' l2' l3' l4' l5' n)) : ∀ (l0 l0' : Nat) (hl0 : pt_r p l0 l0') (l1 l1' : Nat) (hl1 : pt_r p l1 l1') (l2 l2' : Int32) (hl2 : l2 = l2') (l3 l3' : Int32) (hl3 : l3 = l3') (l4 l4' : Int32) (hl4 : l4 = l4') (l5 l5' : Int32) (hl5 : l5 = l5') (m n : ml_M) (hq : pt_Q p v0 r0 m n) (bl0 : l0 ≤ ml_n m) (bl1 : l1 ≤ ml_n m), pt_T (pt_WV p v0 r0) (fX3_gather_53 k6 l0 l1 l2 l3 l4 l5 m) (fX3_gather_53 k6' l0' l1' l2' l3' l4' l5' n) := by
  intro l0 l0' hl0 l1 l1' hl1 l2 l2' hl2 l3 l3' hl3 l4 l4' hl4 l5 l5' hl5 m n hq bl0 bl1
  obtain ⟨rfl, dl0⟩ := hl0
  obtain ⟨rfl, dl1⟩ := hl1
  subst hl2
  subst hl3
  subst hl4
  subst hl5
  unfold fX3_gather_53
  exact (zX3_gather_56 hk6  _ _ (pt_rf dl0) _ _ (pt_rf dl1) _ _ rfl _ _ rfl _ _ rfl _ _ rfl _ _ hq bl0 bl1)
theorem zX3_gather_62 {p : Nat → Nat} {v0 r0 : ml_M} : ∀ (l0 l0' : Nat) (hl0 : pt_r p l0 l0') (l4 l4' : Int32) (hl4 : l4 = l4') (m n : ml_M) (hq : pt_Q p v0 r0 m n) (bl0 : l0 ≤ ml_n m), pt_T (pt_WV p v0 r0) (fX3_gather_62 l0 l4 m) (fX3_gather_62 l0' l4' n) := by
  intro l0 l0' hl0 l4 l4' hl4 m n hq bl0
  obtain ⟨rfl, dl0⟩ := hl0
  subst hl4
  unfold fX3_gather_62
  exact (pt_ck (pt_kc hq (pt_rf dl0)) fun hc1522 => (pt_letk rfl (Nat.le_refl _) (pt_sI hq (pt_rf dl0) rfl) fun m1523 n1524 em1525 hn1527 hq1526 => (pt_retV rfl hq1526)))
theorem zX3_gather_6 {p : Nat → Nat} {v0 r0 : ml_M} : ∀ (fu : Nat) (l0 l0' : Nat) (hl0 : pt_r p l0 l0') (l1 l1' : Nat) (hl1 : pt_r p l1 l1') (l2 l2' : Int32) (hl2 : l2 = l2') (l3 l3' : Int32) (hl3 : l3 = l3') (l4 l4' : Int32) (hl4 : l4 = l4') (l5 l5' : Int32) (hl5 : l5 = l5') (m n : ml_M) (hq : pt_Q p v0 r0 m n) (bl0 : l0 ≤ ml_n m) (bl1 : l1 ≤ ml_n m), pt_T (pt_WV p v0 r0) (fX3_gather_6 fu l0 l1 l2 l3 l4 l5 m) (fX3_gather_6 fu l0' l1' l2' l3' l4' l5' n) := by
  intro fu
  induction fu with
  | zero => intro l0 l0' hl0 l1 l1' hl1 l2 l2' hl2 l3 l3' hl3 l4 l4' hl4 l5 l5' hl5 m n hq bl0 bl1; exact pt_none
  | succ fu ih =>
  intro l0 l0' hl0 l1 l1' hl1 l2 l2' hl2 l3 l3' hl3 l4 l4' hl4 l5 l5' hl5 m n hq bl0 bl1
  obtain ⟨rfl, dl0⟩ := hl0
  obtain ⟨rfl, dl1⟩ := hl1
  subst hl2
  subst hl3
  subst hl4
  subst hl5
  have hk6 := ih
  unfold fX3_gather_6
  exact (pt_ite rfl (fun _ => (zX3_gather_62   _ _ (pt_rf dl0) _ _ rfl _ _ hq bl0)) (fun _ => (pt_b1 (zX10_has _ _ rfl _ _ rfl _ _ hq) fun r1528 => (pt_ite rfl (fun _ => (zX3_gather_56 hk6  _ _ (pt_rf dl0) _ _ (pt_rf dl1) _ _ rfl _ _ rfl _ _ rfl _ _ rfl _ _ hq bl0 bl1)) (fun _ => (pt_ck (pt_in hq (pt_rf dl1) rfl) fun hi1529 => pt_letr (pt_Ra hq (pt_rf dl1) hi1529.1 rfl) (pt_Rb hq (pt_rf dl1) hi1529.1) fun a1530 d_a1530 b_a1530 => (pt_ck (pt_kc hq (pt_rf d_a1530)) fun hc1531 => (pt_ite (pt_e2 (fun (a b : Int32) => a = b) (pt_I hq (pt_rf d_a1530) hc1531) rfl) (fun _ => (pt_ite rfl (fun _ => (zX3_gather_53 hk6  _ _ (pt_rf dl0) _ _ (pt_rf dl1) _ _ rfl _ _ rfl _ _ rfl _ _ rfl _ _ hq bl0 bl1)) (fun _ => (pt_ck (pt_kc hq (pt_rf dl0)) fun hc1532 => (pt_letr (pt_R hq (pt_rf dl0) hc1532) (pt_Rb hq (pt_rf dl0) hc1532) fun a1533 d_a1533 b_a1533 => (pt_ck (pt_in hq (pt_rf dl1) rfl) fun hi1534 => pt_letr (pt_Ra hq (pt_rf dl1) hi1534.1 rfl) (pt_Rb hq (pt_rf dl1) hi1534.1) fun a1535 d_a1535 b_a1535 => (pt_ck (pt_kc hq (pt_rf d_a1535)) fun hc1537 => (pt_ck (pt_in hq (pt_rf d_a1533) rfl) fun hi1536 => (pt_letk rfl (Nat.le_refl _) (pt_sRa hq (pt_rf d_a1533) rfl (pt_rf d_a1535) b_a1535) fun m1538 n1539 em1540 hn1542 hq1541 => (zX3_gather_53 hk6  _ _ (pt_rf dl0) _ _ (pt_rf dl1) _ _ rfl _ _ rfl _ _ rfl _ _ rfl _ _ hq1541 (Nat.le_trans bl0 hn1542) (Nat.le_trans bl1 hn1542))))))))))) (fun _ => (zX3_gather_56 hk6  _ _ (pt_rf dl0) _ _ (pt_rf dl1) _ _ rfl _ _ rfl _ _ rfl _ _ rfl _ _ hq bl0 bl1))))))))))
theorem zX3_gather {p : Nat → Nat} {v0 r0 : ml_M} : ∀ (l0 l0' : Nat) (hl0 : pt_r p l0 l0') (l1 l1' : Nat) (hl1 : pt_r p l1 l1') (l2 l2' : Int32) (hl2 : l2 = l2') (l3 l3' : Int32) (hl3 : l3 = l3') (m n : ml_M) (hq : pt_Q p v0 r0 m n) (bl0 : l0 ≤ ml_n m) (bl1 : l1 ≤ ml_n m), pt_T (pt_WV p v0 r0) (fX3_gather l0 l1 l2 l3 m) (fX3_gather l0' l1' l2' l3' n) := by
  intro l0 l0' hl0 l1 l1' hl1 l2 l2' hl2 l3 l3' hl3 m n hq bl0 bl1
  obtain ⟨rfl, dl0⟩ := hl0
  obtain ⟨rfl, dl1⟩ := hl1
  subst hl2
  subst hl3
  unfold fX3_gather
  exact (zX3_gather_6  ml_fu _ _ (pt_rf dl0) _ _ (pt_rf dl1) _ _ rfl _ _ rfl _ _ rfl _ _ rfl _ _ hq bl0 bl1)
theorem zX3_findAhead_66 {p : Nat → Nat} {v0 r0 : ml_M} {k2 k2' : Nat → Int32 → ml_M → Option ml_M} (hk2 : ∀ (l0 l0' : Nat) (hl0 : pt_r p l0 l0') (l1 l1' : Int32) (hl1 : l1 = l1') (m n : ml_M) (hq : pt_Q p v0 r0 m n) (bl0 : l0 ≤ ml_n m), pt_T (pt_WM p v0 r0) (k2 l0 l1 m) (k2' l0' l1' n)) {k19 k19' : Nat → Int32 → Int32 → ml_M → Option ml_M} (hk19 : ∀ (l0 l0' : Nat) (hl0 : pt_r p l0 l0') (l1 l1' : Int32) (hl1 : l1 = l1') (l2 l2' : Int32) (hl2 : l2 = l2') (m n : ml_M) (hq : pt_Q p v0 r0 m n) (bl0 : l0 ≤ ml_n m), pt_T (pt_WM p v0 r0) (k19 l0 l1 l2 m) (k19' l0' l1' l2' n)) : ∀ (l0 l0' : Nat) (hl0 : pt_r p l0 l0') (l1 l1' : Int32) (hl1 : l1 = l1') (l2 l2' : Int32) (hl2 : l2 = l2') (m n : ml_M) (hq : pt_Q p v0 r0 m n) (bl0 : l0 ≤ ml_n m), pt_T (pt_WM p v0 r0) (fX3_findAhead_66 k2 k19 l0 l1 l2 m) (fX3_findAhead_66 k2' k19' l0' l1' l2' n) := by
  intro l0 l0' hl0 l1 l1' hl1 l2 l2' hl2 m n hq bl0
  obtain ⟨rfl, dl0⟩ := hl0
  subst hl1
  subst hl2
  unfold fX3_findAhead_66
  exact (hk19 _ _ (pt_rf dl0) _ _ rfl _ _ rfl _ _ hq bl0)
theorem zX3_findAhead_72 {p : Nat → Nat} {v0 r0 : ml_M} {k2 k2' : Nat → Int32 → ml_M → Option ml_M} (hk2 : ∀ (l0 l0' : Nat) (hl0 : pt_r p l0 l0') (l1 l1' : Int32) (hl1 : l1 = l1') (m n : ml_M) (hq : pt_Q p v0 r0 m n) (bl0 : l0 ≤ ml_n m), pt_T (pt_WM p v0 r0) (k2 l0 l1 m) (k2' l0' l1' n)) : ∀ (l0 l0' : Nat) (hl0 : pt_r p l0 l0') (l1 l1' : Int32) (hl1 : l1 = l1') (m n : ml_M) (hq : pt_Q p v0 r0 m n) (bl0 : l0 ≤ ml_n m), pt_T (pt_WM p v0 r0) (fX3_findAhead_72 k2 l0 l1 m) (fX3_findAhead_72 k2' l0' l1' n) := by
  intro l0 l0' hl0 l1 l1' hl1 m n hq bl0
  obtain ⟨rfl, dl0⟩ := hl0
  subst hl1
  unfold fX3_findAhead_72
  exact (hk2 _ _ (pt_rf dl0) _ _ rfl _ _ hq bl0)
theorem zX3_findAhead_19 {p : Nat → Nat} {v0 r0 : ml_M} {k2 k2' : Nat → Int32 → ml_M → Option ml_M} (hk2 : ∀ (l0 l0' : Nat) (hl0 : pt_r p l0 l0') (l1 l1' : Int32) (hl1 : l1 = l1') (m n : ml_M) (hq : pt_Q p v0 r0 m n) (bl0 : l0 ≤ ml_n m), pt_T (pt_WM p v0 r0) (k2 l0 l1 m) (k2' l0' l1' n)) : ∀ (fu : Nat) (l0 l0' : Nat) (hl0 : pt_r p l0 l0') (l1 l1' : Int32) (hl1 : l1 = l1') (l2 l2' : Int32) (hl2 : l2 = l2') (m n : ml_M) (hq : pt_Q p v0 r0 m n) (bl0 : l0 ≤ ml_n m), pt_T (pt_WM p v0 r0) (fX3_findAhead_19 k2 fu l0 l1 l2 m) (fX3_findAhead_19 k2' fu l0' l1' l2' n) := by
  intro fu
  induction fu with
  | zero => intro l0 l0' hl0 l1 l1' hl1 l2 l2' hl2 m n hq bl0; exact pt_none
  | succ fu ih =>
  intro l0 l0' hl0 l1 l1' hl1 l2 l2' hl2 m n hq bl0
  obtain ⟨rfl, dl0⟩ := hl0
  subst hl1
  subst hl2
  have hk19 := ih
  unfold fX3_findAhead_19
  exact (pt_ck (pt_kc hq (pt_rf dl0)) fun hc1543 => (pt_ite (pt_e2 (fun (a b : Int32) => b ≤ a) rfl (pt_I hq (pt_rf dl0) hc1543)) (fun _ => (zX3_findAhead_72 hk2  _ _ (pt_rf dl0) _ _ rfl _ _ hq bl0)) (fun _ => (pt_letr (pt_R hq (pt_rf dl0) hc1543) (pt_Rb hq (pt_rf dl0) hc1543) fun a1544 d_a1544 b_a1544 => (pt_ck (pt_in hq (pt_rf d_a1544) rfl) fun hi1545 => pt_letr (pt_Ra hq (pt_rf d_a1544) hi1545.1 rfl) (pt_Rb hq (pt_rf d_a1544) hi1545.1) fun a1546 d_a1546 b_a1546 => (pt_ck (pt_kc hq (pt_rf d_a1546)) fun hc1547 => (pt_letr (pt_R hq (pt_rf dl0) hc1543) (pt_Rb hq (pt_rf dl0) hc1543) fun a1548 d_a1548 b_a1548 => (pt_ck (pt_in hq (pt_rf d_a1548) rfl) fun hi1549 => pt_letr (pt_Ra hq (pt_rf d_a1548) hi1549.1 rfl) (pt_Rb hq (pt_rf d_a1548) hi1549.1) fun a1550 d_a1550 b_a1550 => (pt_ck (pt_kc hq (pt_rf d_a1550)) fun hc1551 => (pt_ite (pt_e2 (fun (a b : Int32) => a = b) (pt_e2 (fun (a b : Int32) => a - a / b * b) (pt_I hq (pt_rf d_a1546) hc1547) rfl) (pt_e2 (fun (a b : Int32) => a / b) (pt_I hq (pt_rf d_a1550) hc1551) rfl)) (fun _ => (pt_letr (pt_R hq (pt_rf dl0) hc1543) (pt_Rb hq (pt_rf dl0) hc1543) fun a1552 d_a1552 b_a1552 => (pt_ck (pt_in hq (pt_rf d_a1552) rfl) fun hi1553 => (pt_ck (pt_in hq (pt_rf d_a1552) rfl) fun hi1554 => (pt_letk rfl (Nat.le_refl _) (pt_sIa hq (pt_rf d_a1552) rfl (pt_e2 (fun (a b : Int32) => a ||| b) (pt_Ia hq (pt_rf d_a1552) hi1553.1 rfl) rfl)) fun m1555 n1556 em1557 hn1559 hq1558 => (zX3_findAhead_66 hk2 hk19  _ _ (pt_rf dl0) _ _ rfl _ _ rfl _ _ hq1558 (Nat.le_trans bl0 hn1559))))))) (fun _ => (zX3_findAhead_66 hk2 hk19  _ _ (pt_rf dl0) _ _ rfl _ _ rfl _ _ hq bl0))))))))))))
theorem zX3_findAhead_2 {p : Nat → Nat} {v0 r0 : ml_M} : ∀ (fu : Nat) (l0 l0' : Nat) (hl0 : pt_r p l0 l0') (l1 l1' : Int32) (hl1 : l1 = l1') (m n : ml_M) (hq : pt_Q p v0 r0 m n) (bl0 : l0 ≤ ml_n m), pt_T (pt_WM p v0 r0) (fX3_findAhead_2 fu l0 l1 m) (fX3_findAhead_2 fu l0' l1' n) := by
  intro fu
  induction fu with
  | zero => intro l0 l0' hl0 l1 l1' hl1 m n hq bl0; exact pt_none
  | succ fu ih =>
  intro l0 l0' hl0 l1 l1' hl1 m n hq bl0
  obtain ⟨rfl, dl0⟩ := hl0
  subst hl1
  have hk2 := ih
  unfold fX3_findAhead_2
  exact (pt_ck (pt_kc hq (pt_rf dl0)) fun hc1560 => (pt_ite (pt_e2 (fun (a b : Int32) => b ≤ a) rfl (pt_I hq (pt_rf dl0) hc1560)) (fun _ => (pt_retM hq)) (fun _ => (pt_letr (pt_R hq (pt_rf dl0) hc1560) (pt_Rb hq (pt_rf dl0) hc1560) fun a1561 d_a1561 b_a1561 => (pt_ck (pt_in hq (pt_rf d_a1561) rfl) fun hi1562 => (pt_letk rfl (Nat.le_refl _) (pt_sIa hq (pt_rf d_a1561) rfl rfl) fun m1563 n1564 em1565 hn1567 hq1566 => (zX3_findAhead_19 hk2 ml_fu _ _ (pt_rf dl0) _ _ rfl _ _ rfl _ _ hq1566 (Nat.le_trans bl0 hn1567))))))))
theorem zX3_findAhead {p : Nat → Nat} {v0 r0 : ml_M} : ∀ (l0 l0' : Nat) (hl0 : pt_r p l0 l0') (m n : ml_M) (hq : pt_Q p v0 r0 m n) (bl0 : l0 ≤ ml_n m), pt_T (pt_WM p v0 r0) (fX3_findAhead l0 m) (fX3_findAhead l0' n) := by
  intro l0 l0' hl0 m n hq bl0
  obtain ⟨rfl, dl0⟩ := hl0
  unfold fX3_findAhead
  exact (zX3_findAhead_2  ml_fu _ _ (pt_rf dl0) _ _ rfl _ _ hq bl0)
theorem zX3_canEnd {p : Nat → Nat} {v0 r0 : ml_M} : ∀ (l0 l0' : Nat) (hl0 : pt_r p l0 l0') (l1 l1' : Int32) (hl1 : l1 = l1') (l2 l2' : Int32) (hl2 : l2 = l2') (m n : ml_M) (hq : pt_Q p v0 r0 m n) (bl0 : l0 ≤ ml_n m), pt_T pt_Wv (fX3_canEnd l0 l1 l2 m) (fX3_canEnd l0' l1' l2' n) := by
  intro l0 l0' hl0 l1 l1' hl1 l2 l2' hl2 m n hq bl0
  obtain ⟨rfl, dl0⟩ := hl0
  subst hl1
  subst hl2
  unfold fX3_canEnd
  exact (pt_ite rfl (fun _ => (pt_rtv rfl)) (fun _ => (pt_ck (pt_kc hq (pt_rf dl0)) fun hc1568 => (pt_letr (pt_R hq (pt_rf dl0) hc1568) (pt_Rb hq (pt_rf dl0) hc1568) fun a1569 d_a1569 b_a1569 => (pt_ck (pt_in hq (pt_rf d_a1569) rfl) fun hi1570 => (pt_letr (pt_R hq (pt_rf dl0) hc1568) (pt_Rb hq (pt_rf dl0) hc1568) fun a1571 d_a1571 b_a1571 => (pt_ck (pt_in hq (pt_rf d_a1571) rfl) fun hi1572 => pt_letr (pt_Ra hq (pt_rf d_a1571) hi1572.1 rfl) (pt_Rb hq (pt_rf d_a1571) hi1572.1) fun a1573 d_a1573 b_a1573 => (pt_ck (pt_kc hq (pt_rf d_a1573)) fun hc1574 => (pt_ite (pt_e2 (fun (a b : Int32) => b < a) (pt_Ia hq (pt_rf d_a1569) hi1570.1 rfl) (pt_I hq (pt_rf d_a1573) hc1574)) (fun _ => (pt_rtv rfl)) (fun _ => (pt_letr (pt_R hq (pt_rf dl0) hc1568) (pt_Rb hq (pt_rf dl0) hc1568) fun a1575 d_a1575 b_a1575 => (pt_ck (pt_in hq (pt_rf d_a1575) rfl) fun hi1576 => (pt_letr (pt_R hq (pt_rf dl0) hc1568) (pt_Rb hq (pt_rf dl0) hc1568) fun a1577 d_a1577 b_a1577 => (pt_ck (pt_in hq (pt_rf d_a1577) rfl) fun hi1578 => (pt_ite (pt_e1 (fun (a : Int32) => a = 0) (pt_e2 (fun (a b : Int32) => a &&& b) (pt_Ia hq (pt_rf d_a1575) hi1576.1 rfl) (pt_Ia hq (pt_rf d_a1577) hi1578.1 rfl))) (fun _ => (pt_rtv rfl)) (fun _ => (pt_rtv rfl)))))))))))))))))
theorem zX3_findLasts_102 {p : Nat → Nat} {v0 r0 : ml_M} {k6 k6' : Nat → Int32 → ml_M → Option ml_M} (hk6 : ∀ (l0 l0' : Nat) (hl0 : pt_r p l0 l0') (l1 l1' : Int32) (hl1 : l1 = l1') (m n : ml_M) (hq : pt_Q p v0 r0 m n) (bl0 : l0 ≤ ml_n m), pt_T (pt_WM p v0 r0) (k6 l0 l1 m) (k6' l0' l1' n)) {k32 k32' : Nat → Int32 → Int32 → ml_M → Option ml_M} (hk32 : ∀ (l0 l0' : Nat) (hl0 : pt_r p l0 l0') (l1 l1' : Int32) (hl1 : l1 = l1') (l2 l2' : Int32) (hl2 : l2 = l2') (m n : ml_M) (hq : pt_Q p v0 r0 m n) (bl0 : l0 ≤ ml_n m), pt_T (pt_WM p v0 r0) (k32 l0 l1 l2 m) (k32' l0' l1' l2' n)) : ∀ (l0 l0' : Nat) (hl0 : pt_r p l0 l0') (l1 l1' : Int32) (hl1 : l1 = l1') (l2 l2' : Int32) (hl2 : l2 = l2') (m n : ml_M) (hq : pt_Q p v0 r0 m n) (bl0 : l0 ≤ ml_n m), pt_T (pt_WM p v0 r0) (fX3_findLasts_102 k6 k32 l0 l1 l2 m) (fX3_findLasts_102 k6' k32' l0' l1' l2' n) := by
  intro l0 l0' hl0 l1 l1' hl1 l2 l2' hl2 m n hq bl0
  obtain ⟨rfl, dl0⟩ := hl0
  subst hl1
  subst hl2
  unfold fX3_findLasts_102
  exact (hk32 _ _ (pt_rf dl0) _ _ rfl _ _ rfl _ _ hq bl0)
theorem zX3_findLasts_108 {p : Nat → Nat} {v0 r0 : ml_M} {k6 k6' : Nat → Int32 → ml_M → Option ml_M} (hk6 : ∀ (l0 l0' : Nat) (hl0 : pt_r p l0 l0') (l1 l1' : Int32) (hl1 : l1 = l1') (m n : ml_M) (hq : pt_Q p v0 r0 m n) (bl0 : l0 ≤ ml_n m), pt_T (pt_WM p v0 r0) (k6 l0 l1 m) (k6' l0' l1' n)) : ∀ (l0 l0' : Nat) (hl0 : pt_r p l0 l0') (l1 l1' : Int32) (hl1 : l1 = l1') (m n : ml_M) (hq : pt_Q p v0 r0 m n) (bl0 : l0 ≤ ml_n m), pt_T (pt_WM p v0 r0) (fX3_findLasts_108 k6 l0 l1 m) (fX3_findLasts_108 k6' l0' l1' n) := by
  intro l0 l0' hl0 l1 l1' hl1 m n hq bl0
  obtain ⟨rfl, dl0⟩ := hl0
  subst hl1
  unfold fX3_findLasts_108
  exact (hk6 _ _ (pt_rf dl0) _ _ rfl _ _ hq bl0)
theorem zX3_findLasts_32 {p : Nat → Nat} {v0 r0 : ml_M} {k6 k6' : Nat → Int32 → ml_M → Option ml_M} (hk6 : ∀ (l0 l0' : Nat) (hl0 : pt_r p l0 l0') (l1 l1' : Int32) (hl1 : l1 = l1') (m n : ml_M) (hq : pt_Q p v0 r0 m n) (bl0 : l0 ≤ ml_n m), pt_T (pt_WM p v0 r0) (k6 l0 l1 m) (k6' l0' l1' n)) : ∀ (fu : Nat) (l0 l0' : Nat) (hl0 : pt_r p l0 l0') (l1 l1' : Int32) (hl1 : l1 = l1') (l2 l2' : Int32) (hl2 : l2 = l2') (m n : ml_M) (hq : pt_Q p v0 r0 m n) (bl0 : l0 ≤ ml_n m), pt_T (pt_WM p v0 r0) (fX3_findLasts_32 k6 fu l0 l1 l2 m) (fX3_findLasts_32 k6' fu l0' l1' l2' n) := by
  intro fu
  induction fu with
  | zero => intro l0 l0' hl0 l1 l1' hl1 l2 l2' hl2 m n hq bl0; exact pt_none
  | succ fu ih =>
  intro l0 l0' hl0 l1 l1' hl1 l2 l2' hl2 m n hq bl0
  obtain ⟨rfl, dl0⟩ := hl0
  subst hl1
  subst hl2
  have hk32 := ih
  unfold fX3_findLasts_32
  exact (pt_ck (pt_kc hq (pt_rf dl0)) fun hc1579 => (pt_ite (pt_e2 (fun (a b : Int32) => b ≤ a) rfl (pt_I hq (pt_rf dl0) hc1579)) (fun _ => (zX3_findLasts_108 hk6  _ _ (pt_rf dl0) _ _ rfl _ _ hq bl0)) (fun _ => (pt_b1 (zX10_has _ _ rfl _ _ rfl _ _ hq) fun r1580 => (pt_ite rfl (fun _ => (zX3_findLasts_102 hk6 hk32  _ _ (pt_rf dl0) _ _ rfl _ _ rfl _ _ hq bl0)) (fun _ => (pt_letr (pt_R hq (pt_rf dl0) hc1579) (pt_Rb hq (pt_rf dl0) hc1579) fun a1581 d_a1581 b_a1581 => (pt_letr (pt_R hq (pt_rf dl0) hc1579) (pt_Rb hq (pt_rf dl0) hc1579) fun a1582 d_a1582 b_a1582 => (pt_ck (pt_in hq (pt_rf d_a1582) rfl) fun hi1583 => (pt_letr (pt_R hq (pt_rf dl0) hc1579) (pt_Rb hq (pt_rf dl0) hc1579) fun a1584 d_a1584 b_a1584 => (pt_ck (pt_in hq (pt_rf d_a1584) rfl) fun hi1585 => pt_letr (pt_Ra hq (pt_rf d_a1584) hi1585.1 rfl) (pt_Rb hq (pt_rf d_a1584) hi1585.1) fun a1586 d_a1586 b_a1586 => (pt_ck (pt_kc hq (pt_rf d_a1586)) fun hc1587 => (pt_ck (pt_in hq (pt_rf d_a1581) rfl) fun hi1588 => (pt_letk rfl (Nat.le_refl _) (pt_sIa hq (pt_rf d_a1581) rfl (pt_e2 (fun (a b : Int32) => if a < b then b else a) (pt_Ia hq (pt_rf d_a1582) hi1583.1 rfl) (pt_I hq (pt_rf d_a1586) hc1587))) fun m1589 n1590 em1591 hn1593 hq1592 => (pt_b1 (zX3_canEnd _ _ (pt_rf dl0) _ _ rfl _ _ rfl _ _ hq1592 (Nat.le_trans bl0 hn1593)) fun r1594 => (pt_ite rfl (fun _ => (zX3_findLasts_102 hk6 hk32  _ _ (pt_rf dl0) _ _ rfl _ _ rfl _ _ hq1592 (Nat.le_trans bl0 hn1593))) (fun _ => (pt_letr (pt_R hq1592 (pt_rf dl0) (ml_kk em1591 hc1579)) (pt_Rb hq1592 (pt_rf dl0) (ml_kk em1591 hc1579)) fun a1595 d_a1595 b_a1595 => (pt_ck (pt_in hq1592 (pt_rf d_a1595) rfl) fun hi1596 => (pt_ck (pt_in hq1592 (pt_rf d_a1595) rfl) fun hi1597 => (pt_letk rfl (Nat.le_refl _) (pt_sIa hq1592 (pt_rf d_a1595) rfl (pt_e2 (fun (a b : Int32) => a ||| b) (pt_Ia hq1592 (pt_rf d_a1595) hi1596.1 rfl) rfl)) fun m1598 n1599 em1600 hn1602 hq1601 => (zX3_findLasts_102 hk6 hk32  _ _ (pt_rf dl0) _ _ rfl _ _ rfl _ _ hq1601 (Nat.le_trans (Nat.le_trans bl0 hn1593) hn1602)))))))))))))))))))))))
theorem zX3_findLasts_6 {p : Nat → Nat} {v0 r0 : ml_M} : ∀ (fu : Nat) (l0 l0' : Nat) (hl0 : pt_r p l0 l0') (l1 l1' : Int32) (hl1 : l1 = l1') (m n : ml_M) (hq : pt_Q p v0 r0 m n) (bl0 : l0 ≤ ml_n m), pt_T (pt_WM p v0 r0) (fX3_findLasts_6 fu l0 l1 m) (fX3_findLasts_6 fu l0' l1' n) := by
  intro fu
  induction fu with
  | zero => intro l0 l0' hl0 l1 l1' hl1 m n hq bl0; exact pt_none
  | succ fu ih =>
  intro l0 l0' hl0 l1 l1' hl1 m n hq bl0
  obtain ⟨rfl, dl0⟩ := hl0
  subst hl1
  have hk6 := ih
  unfold fX3_findLasts_6
  exact (pt_ck (pt_kc hq (pt_rf dl0)) fun hc1603 => (pt_ite (pt_e2 (fun (a b : Int32) => b ≤ a) rfl (pt_e2 (fun (a b : Int32) => a <<< (b &&& 31)) rfl (pt_I hq (pt_rf dl0) hc1603))) (fun _ => (pt_retM hq)) (fun _ => (pt_letr (pt_R hq (pt_rf dl0) hc1603) (pt_Rb hq (pt_rf dl0) hc1603) fun a1604 d_a1604 b_a1604 => (pt_ck (pt_in hq (pt_rf d_a1604) rfl) fun hi1605 => (pt_letk rfl (Nat.le_refl _) (pt_sIa hq (pt_rf d_a1604) rfl rfl) fun m1606 n1607 em1608 hn1610 hq1609 => (pt_letr (pt_R hq1609 (pt_rf dl0) (ml_kk em1608 hc1603)) (pt_Rb hq1609 (pt_rf dl0) (ml_kk em1608 hc1603)) fun a1611 d_a1611 b_a1611 => (pt_ck (pt_in hq1609 (pt_rf d_a1611) rfl) fun hi1612 => (pt_letk rfl (Nat.le_refl _) (pt_sIa hq1609 (pt_rf d_a1611) rfl rfl) fun m1613 n1614 em1615 hn1617 hq1616 => (zX3_findLasts_32 hk6 ml_fu _ _ (pt_rf dl0) _ _ rfl _ _ rfl _ _ hq1616 (Nat.le_trans (Nat.le_trans bl0 hn1610) hn1617)))))))))))
theorem zX3_findLasts {p : Nat → Nat} {v0 r0 : ml_M} : ∀ (l0 l0' : Nat) (hl0 : pt_r p l0 l0') (m n : ml_M) (hq : pt_Q p v0 r0 m n) (bl0 : l0 ≤ ml_n m), pt_T (pt_WM p v0 r0) (fX3_findLasts l0 m) (fX3_findLasts l0' n) := by
  intro l0 l0' hl0 m n hq bl0
  obtain ⟨rfl, dl0⟩ := hl0
  unfold fX3_findLasts
  exact (pt_ck (pt_kc hq (pt_rf dl0)) fun hc1618 => (pt_b1m hq (zX3_findAhead _ _ (pt_rf dl0) _ _ (pt_ref hq) bl0) fun m1619 n1620 hn1622 hq1621 => (zX3_findLasts_6  ml_fu _ _ (pt_rf dl0) _ _ rfl _ _ hq1621 (Nat.le_trans bl0 hn1622))))

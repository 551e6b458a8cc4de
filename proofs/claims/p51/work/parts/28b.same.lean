/-! printed by wip/p51/emit2.py: the class does the same in memories that hold the same -/
theorem zX7_findCovers_46 {p : Nat → Nat} {v0 r0 : ml_M} {k2 k2' : Nat → Nat → Int32 → Int32 → ml_M → Option ml_M} (hk2 : ∀ (l0 l0' : Nat) (hl0 : pt_r p l0 l0') (l1 l1' : Nat) (hl1 : pt_r p l1 l1') (l2 l2' : Int32) (hl2 : l2 = l2') (l3 l3' : Int32) (hl3 : l3 = l3') (m n : ml_M) (hq : pt_Q p v0 r0 m n), pt_T (pt_WM p v0 r0) (k2 l0 l1 l2 l3 m) (k2' l0' l1' l2' l3' n)) {k18 k18' : Nat → Nat → Int32 → Int32 → Int32 → Int32 → ml_M → Option ml_M} (hk18 : ∀ (l0 l0' : Nat) (hl0 : pt_r p l0 l0') (l1 l1' : Nat) (hl1 : pt_r p l1 l1') (l2 l2' : Int32) (hl2 : l2 = l2') (l3 l3' : Int32) (hl3 : l3 = l3') (l4 l4' : Int32) (hl4 : l4 = l4') (l5 l5' : Int32) (hl5 : l5 = l5') (m n : ml_M) (hq : pt_Q p v0 r0 m n), pt_T (pt_WM p v0 r0) (k18 l0 l1 l2 l3 l4 l5 m) (k18' l0' l1' l2' l3' l4' l5' n)) : ∀ (l0 l0' : Nat) (hl0 : pt_r p l0 l0') (l1 l1' : Nat) (hl1 : pt_r p l1 l1') (l2 l2' : Int32) (hl2 : l2 = l2') (l3 l3' : Int32) (hl3 : l3 = l3') (l5 l5' : Int32) (hl5 : l5 = l5') (t0 t0' : Int32) (ht0 : t0 = t0') (m n : ml_M) (hq : pt_Q p v0 r0 m n), pt_T (pt_WM p v0 r0) (fX7_findCovers_46 k2 k18 l0 l1 l2 l3 l5 t0 m) (fX7_findCovers_46 k2' k18' l0' l1' l2' l3' l5' t0' n) := by
  intro l0 l0' hl0 l1 l1' hl1 l2 l2' hl2 l3 l3' hl3 l5 l5' hl5 t0 t0' ht0 m n hq
  obtain ⟨rfl, dl0⟩ := hl0
  obtain ⟨rfl, dl1⟩ := hl1
  subst hl2
  subst hl3
  subst hl5
  subst ht0
  unfold fX7_findCovers_46
  exact (hk18 _ _ (pt_rf dl0) _ _ (pt_rf dl1) _ _ rfl _ _ rfl _ _ rfl _ _ rfl _ _ hq)
theorem zX7_findCovers_54 {p : Nat → Nat} {v0 r0 : ml_M} {k2 k2' : Nat → Nat → Int32 → Int32 → ml_M → Option ml_M} (hk2 : ∀ (l0 l0' : Nat) (hl0 : pt_r p l0 l0') (l1 l1' : Nat) (hl1 : pt_r p l1 l1') (l2 l2' : Int32) (hl2 : l2 = l2') (l3 l3' : Int32) (hl3 : l3 = l3') (m n : ml_M) (hq : pt_Q p v0 r0 m n), pt_T (pt_WM p v0 r0) (k2 l0 l1 l2 l3 m) (k2' l0' l1' l2' l3' n)) : ∀ (l0 l0' : Nat) (hl0 : pt_r p l0 l0') (l1 l1' : Nat) (hl1 : pt_r p l1 l1') (l2 l2' : Int32) (hl2 : l2 = l2') (l3 l3' : Int32) (hl3 : l3 = l3') (l4 l4' : Int32) (hl4 : l4 = l4') (m n : ml_M) (hq : pt_Q p v0 r0 m n), pt_T (pt_WM p v0 r0) (fX7_findCovers_54 k2 l0 l1 l2 l3 l4 m) (fX7_findCovers_54 k2' l0' l1' l2' l3' l4' n) := by
  intro l0 l0' hl0 l1 l1' hl1 l2 l2' hl2 l3 l3' hl3 l4 l4' hl4 m n hq
  obtain ⟨rfl, dl0⟩ := hl0
  obtain ⟨rfl, dl1⟩ := hl1
  subst hl2
  subst hl3
  subst hl4
  unfold fX7_findCovers_54
  exact (pt_ck (pt_kc hq (pt_rf dl0)) fun hc1045 => (pt_letr (pt_R hq (pt_rf dl0) hc1045) fun a1046 d_a1046 => (pt_ck (pt_in hq (pt_rf d_a1046) rfl) fun hi1047 => (pt_letk rfl (pt_sIa hq (pt_rf d_a1046) rfl rfl) fun m1048 n1049 em1050 hq1051 => (hk2 _ _ (pt_rf dl0) _ _ (pt_rf dl1) _ _ rfl _ _ rfl _ _ hq1051)))))
theorem zX7_findCovers_18 {p : Nat → Nat} {v0 r0 : ml_M} {k2 k2' : Nat → Nat → Int32 → Int32 → ml_M → Option ml_M} (hk2 : ∀ (l0 l0' : Nat) (hl0 : pt_r p l0 l0') (l1 l1' : Nat) (hl1 : pt_r p l1 l1') (l2 l2' : Int32) (hl2 : l2 = l2') (l3 l3' : Int32) (hl3 : l3 = l3') (m n : ml_M) (hq : pt_Q p v0 r0 m n), pt_T (pt_WM p v0 r0) (k2 l0 l1 l2 l3 m) (k2' l0' l1' l2' l3' n)) : ∀ (fu : Nat) (l0 l0' : Nat) (hl0 : pt_r p l0 l0') (l1 l1' : Nat) (hl1 : pt_r p l1 l1') (l2 l2' : Int32) (hl2 : l2 = l2') (l3 l3' : Int32) (hl3 : l3 = l3') (l4 l4' : Int32) (hl4 : l4 = l4') (l5 l5' : Int32) (hl5 : l5 = l5') (m n : ml_M) (hq : pt_Q p v0 r0 m n), pt_T (pt_WM p v0 r0) (fX7_findCovers_18 k2 fu l0 l1 l2 l3 l4 l5 m) (fX7_findCovers_18 k2' fu l0' l1' l2' l3' l4' l5' n) := by
  intro fu
  induction fu with
  | zero => intro l0 l0' hl0 l1 l1' hl1 l2 l2' hl2 l3 l3' hl3 l4 l4' hl4 l5 l5' hl5 m n hq; exact pt_none
  | succ fu ih =>
  intro l0 l0' hl0 l1 l1' hl1 l2 l2' hl2 l3 l3' hl3 l4 l4' hl4 l5 l5' hl5 m n hq
  obtain ⟨rfl, dl0⟩ := hl0
  obtain ⟨rfl, dl1⟩ := hl1
  subst hl2
  subst hl3
  subst hl4
  subst hl5
  have hk18 := ih
  unfold fX7_findCovers_18
  exact (pt_ite rfl (fun _ => (zX7_findCovers_54 hk2  _ _ (pt_rf dl0) _ _ (pt_rf dl1) _ _ rfl _ _ rfl _ _ rfl _ _ hq)) (fun _ => (pt_ite rfl (fun _ => (zX7_findCovers_54 hk2  _ _ (pt_rf dl0) _ _ (pt_rf dl1) _ _ rfl _ _ rfl _ _ rfl _ _ hq)) (fun _ => (pt_ck (pt_in hq (pt_rf dl1) rfl) fun hi1052 => pt_letr (pt_Ra hq (pt_rf dl1) hi1052.1 rfl) fun a1053 d_a1053 => (pt_ck (pt_kc hq (pt_rf d_a1053)) fun hc1054 => (pt_ite (pt_e1 (fun (a : Int32) => a = 0) (pt_e2 (fun (a b : Int32) => a &&& b) (pt_I hq (pt_rf d_a1053) hc1054) rfl)) (fun _ => (zX7_findCovers_46 hk2 hk18  _ _ (pt_rf dl0) _ _ (pt_rf dl1) _ _ rfl _ _ rfl _ _ rfl _ _ rfl _ _ hq)) (fun _ => (zX7_findCovers_46 hk2 hk18  _ _ (pt_rf dl0) _ _ (pt_rf dl1) _ _ rfl _ _ rfl _ _ rfl _ _ rfl _ _ hq)))))))))
theorem zX7_findCovers_2 {p : Nat → Nat} {v0 r0 : ml_M} : ∀ (fu : Nat) (l0 l0' : Nat) (hl0 : pt_r p l0 l0') (l1 l1' : Nat) (hl1 : pt_r p l1 l1') (l2 l2' : Int32) (hl2 : l2 = l2') (l3 l3' : Int32) (hl3 : l3 = l3') (m n : ml_M) (hq : pt_Q p v0 r0 m n), pt_T (pt_WM p v0 r0) (fX7_findCovers_2 fu l0 l1 l2 l3 m) (fX7_findCovers_2 fu l0' l1' l2' l3' n) := by
  intro fu
  induction fu with
  | zero => intro l0 l0' hl0 l1 l1' hl1 l2 l2' hl2 l3 l3' hl3 m n hq; exact pt_none
  | succ fu ih =>
  intro l0 l0' hl0 l1 l1' hl1 l2 l2' hl2 l3 l3' hl3 m n hq
  obtain ⟨rfl, dl0⟩ := hl0
  obtain ⟨rfl, dl1⟩ := hl1
  subst hl2
  subst hl3
  have hk2 := ih
  unfold fX7_findCovers_2
  exact (pt_ck (pt_kc hq (pt_rf dl0)) fun hc1055 => (pt_ite (pt_e2 (fun (a b : Int32) => b ≤ a) rfl (pt_e2 (fun (a b : Int32) => a <<< (b &&& 31)) rfl (pt_I hq (pt_rf dl0) hc1055))) (fun _ => (pt_retM hq)) (fun _ => (zX7_findCovers_18 hk2 ml_fu _ _ (pt_rf dl0) _ _ (pt_rf dl1) _ _ rfl _ _ rfl _ _ rfl _ _ rfl _ _ hq))))
theorem zX7_findCovers {p : Nat → Nat} {v0 r0 : ml_M} : ∀ (l0 l0' : Nat) (hl0 : pt_r p l0 l0') (l1 l1' : Nat) (hl1 : pt_r p l1 l1') (l2 l2' : Int32) (hl2 : l2 = l2') (m n : ml_M) (hq : pt_Q p v0 r0 m n), pt_T (pt_WM p v0 r0) (fX7_findCovers l0 l1 l2 m) (fX7_findCovers l0' l1' l2' n) := by
  intro l0 l0' hl0 l1 l1' hl1 l2 l2' hl2 m n hq
  obtain ⟨rfl, dl0⟩ := hl0
  obtain ⟨rfl, dl1⟩ := hl1
  subst hl2
  unfold fX7_findCovers
  exact (zX7_findCovers_2  ml_fu _ _ (pt_rf dl0) _ _ (pt_rf dl1) _ _ rfl _ _ rfl _ _ hq)
theorem zX7_note_69 {p : Nat → Nat} {v0 r0 : ml_M} : ∀ (l0 l0' : Nat) (hl0 : pt_r p l0 l0') (l1 l1' : Int32) (hl1 : l1 = l1') (m n : ml_M) (hq : pt_Q p v0 r0 m n), pt_T (pt_WM p v0 r0) (fX7_note_69 l0 l1 m) (fX7_note_69 l0' l1' n) := by
  intro l0 l0' hl0 l1 l1' hl1 m n hq
  obtain ⟨rfl, dl0⟩ := hl0
  subst hl1
  unfold fX7_note_69
  exact (pt_ck (pt_kc hq (pt_rf dl0)) fun hc1056 => (pt_letk rfl (pt_sI hq (pt_rf dl0) rfl) fun m1057 n1058 em1059 hq1060 => (pt_letr (pt_R hq1060 (pt_rf dl0) (ml_kk em1059 hc1056)) fun a1061 d_a1061 => (pt_letr (pt_R hq1060 (pt_rf dl0) (ml_kk em1059 hc1056)) fun a1062 d_a1062 => (pt_ck (pt_cpo hq1060 (pt_rf d_a1061) (pt_rf d_a1062) rfl rfl rfl) fun ho1063 => (pt_letk rfl (pt_cp hq1060 (pt_rf d_a1061) (pt_rf d_a1062) rfl rfl rfl ho1063.1.1) fun m1064 n1065 em1066 hq1067 => (pt_retM hq1067)))))))
theorem zX7_note_51 {p : Nat → Nat} {v0 r0 : ml_M} : ∀ (l0 l0' : Nat) (hl0 : pt_r p l0 l0') (l1 l1' : Int32) (hl1 : l1 = l1') (m n : ml_M) (hq : pt_Q p v0 r0 m n), pt_T (pt_WM p v0 r0) (fX7_note_51 l0 l1 m) (fX7_note_51 l0' l1' n) := by
  intro l0 l0' hl0 l1 l1' hl1 m n hq
  obtain ⟨rfl, dl0⟩ := hl0
  subst hl1
  unfold fX7_note_51
  exact (pt_ck (pt_kc hq (pt_rf dl0)) fun hc1068 => (pt_ite (pt_e2 (fun (a b : Int32) => a = b) (pt_I hq (pt_rf dl0) hc1068) rfl) (fun _ => (zX7_note_69   _ _ (pt_rf dl0) _ _ rfl _ _ hq)) (fun _ => (pt_ite (pt_e2 (fun (a b : Int32) => a < b) rfl (pt_I hq (pt_rf dl0) hc1068)) (fun _ => (zX7_note_69   _ _ (pt_rf dl0) _ _ rfl _ _ hq)) (fun _ => (pt_retM hq))))))
theorem zX7_note_12 {p : Nat → Nat} {v0 r0 : ml_M} : ∀ (fu : Nat) (l0 l0' : Nat) (hl0 : pt_r p l0 l0') (l1 l1' : Int32) (hl1 : l1 = l1') (l2 l2' : Int32) (hl2 : l2 = l2') (m n : ml_M) (hq : pt_Q p v0 r0 m n), pt_T (pt_WM p v0 r0) (fX7_note_12 fu l0 l1 l2 m) (fX7_note_12 fu l0' l1' l2' n) := by
  intro fu
  induction fu with
  | zero => intro l0 l0' hl0 l1 l1' hl1 l2 l2' hl2 m n hq; exact pt_none
  | succ fu ih =>
  intro l0 l0' hl0 l1 l1' hl1 l2 l2' hl2 m n hq
  obtain ⟨rfl, dl0⟩ := hl0
  subst hl1
  subst hl2
  have hk12 := ih
  unfold fX7_note_12
  exact (pt_ck (pt_kc hq (pt_rf dl0)) fun hc1069 => (pt_ite (pt_e2 (fun (a b : Int32) => b ≤ a) rfl (pt_I hq (pt_rf dl0) hc1069)) (fun _ => (zX7_note_51   _ _ (pt_rf dl0) _ _ rfl _ _ hq)) (fun _ => (pt_letr (pt_R hq (pt_rf dl0) hc1069) fun a1070 d_a1070 => (pt_letr (pt_R hq (pt_rf dl0) hc1069) fun a1071 d_a1071 => (pt_ck (pt_in hq (pt_rf d_a1071) rfl) fun hi1072 => (pt_ck (pt_in hq (pt_rf d_a1070) (pt_e2 (fun (a b : Int32) => a + b) rfl (pt_Ia hq (pt_rf d_a1071) hi1072.1 rfl))) fun hi1073 => (pt_ck (pt_in hq (pt_rf d_a1070) (pt_e2 (fun (a b : Int32) => a + b) rfl (pt_Ia hq (pt_rf d_a1071) hi1072.1 rfl))) fun hi1074 => (pt_letk rfl (pt_sIa hq (pt_rf d_a1070) (pt_e2 (fun (a b : Int32) => a + b) rfl (pt_Ia hq (pt_rf d_a1071) hi1072.1 rfl)) (pt_e2 (fun (a b : Int32) => a + b) (pt_Ia hq (pt_rf d_a1070) hi1073.1 (pt_e2 (fun (a b : Int32) => a + b) rfl (pt_Ia hq (pt_rf d_a1071) hi1072.1 rfl))) rfl)) fun m1075 n1076 em1077 hq1078 => (hk12 _ _ (pt_rf dl0) _ _ rfl _ _ rfl _ _ hq1078))))))))))
theorem zX7_note {p : Nat → Nat} {v0 r0 : ml_M} : ∀ (l0 l0' : Nat) (hl0 : pt_r p l0 l0') (l1 l1' : Int32) (hl1 : l1 = l1') (m n : ml_M) (hq : pt_Q p v0 r0 m n), pt_T (pt_WM p v0 r0) (fX7_note l0 l1 m) (fX7_note l0' l1' n) := by
  intro l0 l0' hl0 l1 l1' hl1 m n hq
  obtain ⟨rfl, dl0⟩ := hl0
  subst hl1
  unfold fX7_note
  exact (pt_ck (pt_kc hq (pt_rf dl0)) fun hc1079 => (pt_letr (pt_R hq (pt_rf dl0) hc1079) fun a1080 d_a1080 => (pt_ck (pt_in hq (pt_rf d_a1080) rfl) fun hi1081 => (pt_ck (pt_in hq (pt_rf d_a1080) rfl) fun hi1082 => (pt_letk rfl (pt_sIa hq (pt_rf d_a1080) rfl (pt_e2 (fun (a b : Int32) => a + b) (pt_Ia hq (pt_rf d_a1080) hi1081.1 rfl) rfl)) fun m1083 n1084 em1085 hq1086 => (zX7_note_12  ml_fu _ _ (pt_rf dl0) _ _ rfl _ _ rfl _ _ hq1086))))))
theorem zX7_open_86 {p : Nat → Nat} {v0 r0 : ml_M} {k24 k24' : Nat → Int32 → Int32 → Nat → Int32 → ml_M → Option Int32} (hk24 : ∀ (l0 l0' : Nat) (hl0 : pt_r p l0 l0') (l1 l1' : Int32) (hl1 : l1 = l1') (l3 l3' : Int32) (hl3 : l3 = l3') (l4 l4' : Nat) (hl4 : pt_r p l4 l4') (l5 l5' : Int32) (hl5 : l5 = l5') (m n : ml_M) (hq : pt_Q p v0 r0 m n), pt_T pt_Wv (k24 l0 l1 l3 l4 l5 m) (k24' l0' l1' l3' l4' l5' n)) : ∀ (l0 l0' : Nat) (hl0 : pt_r p l0 l0') (l1 l1' : Int32) (hl1 : l1 = l1') (l3 l3' : Int32) (hl3 : l3 = l3') (l4 l4' : Nat) (hl4 : pt_r p l4 l4') (l5 l5' : Int32) (hl5 : l5 = l5') (m n : ml_M) (hq : pt_Q p v0 r0 m n), pt_T pt_Wv (fX7_open_86 k24 l0 l1 l3 l4 l5 m) (fX7_open_86 k24' l0' l1' l3' l4' l5' n) := by
  intro l0 l0' hl0 l1 l1' hl1 l3 l3' hl3 l4 l4' hl4 l5 l5' hl5 m n hq
  obtain ⟨rfl, dl0⟩ := hl0
  subst hl1
  subst hl3
  obtain ⟨rfl, dl4⟩ := hl4
  subst hl5
  unfold fX7_open_86
  exact (hk24 _ _ (pt_rf dl0) _ _ rfl _ _ rfl _ _ (pt_rf dl4) _ _ rfl _ _ hq)
theorem zX7_open_58 {p : Nat → Nat} {v0 r0 : ml_M} {k24 k24' : Nat → Int32 → Int32 → Nat → Int32 → ml_M → Option Int32} (hk24 : ∀ (l0 l0' : Nat) (hl0 : pt_r p l0 l0') (l1 l1' : Int32) (hl1 : l1 = l1') (l3 l3' : Int32) (hl3 : l3 = l3') (l4 l4' : Nat) (hl4 : pt_r p l4 l4') (l5 l5' : Int32) (hl5 : l5 = l5') (m n : ml_M) (hq : pt_Q p v0 r0 m n), pt_T pt_Wv (k24 l0 l1 l3 l4 l5 m) (k24' l0' l1' l3' l4' l5' n)) : ∀ (l0 l0' : Nat) (hl0 : pt_r p l0 l0') (l1 l1' : Int32) (hl1 : l1 = l1') (l3 l3' : Int32) (hl3 : l3 = l3') (l4 l4' : Nat) (hl4 : pt_r p l4 l4') (l5 l5' : Int32) (hl5 : l5 = l5') (m n : ml_M) (hq : pt_Q p v0 r0 m n), pt_T pt_Wv (fX7_open_58 k24 l0 l1 l3 l4 l5 m) (fX7_open_58 k24' l0' l1' l3' l4' l5' n) := by
  intro l0 l0' hl0 l1 l1' hl1 l3 l3' hl3 l4 l4' hl4 l5 l5' hl5 m n hq
  obtain ⟨rfl, dl0⟩ := hl0
  subst hl1
  subst hl3
  obtain ⟨rfl, dl4⟩ := hl4
  subst hl5
  unfold fX7_open_58
  exact (pt_ck (pt_kc hq (pt_rf dl4)) fun hc1087 => (pt_b1 (zX10_has _ _ (pt_I hq (pt_rf dl4) hc1087) _ _ rfl _ _ hq) fun r1088 => (pt_ite rfl (fun _ => (zX7_open_86 hk24  _ _ (pt_rf dl0) _ _ rfl _ _ rfl _ _ (pt_rf dl4) _ _ rfl _ _ hq)) (fun _ => (pt_ck (pt_kc hq (pt_rf dl0)) fun hc1089 => (pt_letr (pt_R hq (pt_rf dl0) hc1089) fun a1090 d_a1090 => (pt_letr (pt_R hq (pt_rf dl0) hc1089) fun a1091 d_a1091 => (pt_ck (pt_in hq (pt_rf d_a1091) rfl) fun hi1092 => (pt_ck (pt_in hq (pt_rf d_a1090) (pt_Ia hq (pt_rf d_a1091) hi1092.1 rfl)) fun hi1093 => (pt_leti (pt_e2 (fun (a b : Int32) => a &&& b) rfl (pt_Ia hq (pt_rf d_a1090) hi1093.1 (pt_Ia hq (pt_rf d_a1091) hi1092.1 rfl))) fun x1094 => (zX7_open_86 hk24  _ _ (pt_rf dl0) _ _ rfl _ _ rfl _ _ (pt_rf dl4) _ _ rfl _ _ hq)))))))))))
theorem zX7_open_24 {p : Nat → Nat} {v0 r0 : ml_M} : ∀ (fu : Nat) (l0 l0' : Nat) (hl0 : pt_r p l0 l0') (l1 l1' : Int32) (hl1 : l1 = l1') (l3 l3' : Int32) (hl3 : l3 = l3') (l4 l4' : Nat) (hl4 : pt_r p l4 l4') (l5 l5' : Int32) (hl5 : l5 = l5') (m n : ml_M) (hq : pt_Q p v0 r0 m n), pt_T pt_Wv (fX7_open_24 fu l0 l1 l3 l4 l5 m) (fX7_open_24 fu l0' l1' l3' l4' l5' n) := by
  intro fu
  induction fu with
  | zero => intro l0 l0' hl0 l1 l1' hl1 l3 l3' hl3 l4 l4' hl4 l5 l5' hl5 m n hq; exact pt_none
  | succ fu ih =>
  intro l0 l0' hl0 l1 l1' hl1 l3 l3' hl3 l4 l4' hl4 l5 l5' hl5 m n hq
  obtain ⟨rfl, dl0⟩ := hl0
  subst hl1
  subst hl3
  obtain ⟨rfl, dl4⟩ := hl4
  subst hl5
  have hk24 := ih
  unfold fX7_open_24
  exact (pt_ite rfl (fun _ => (pt_rtv rfl)) (fun _ => (pt_ck (pt_kc hq (pt_rf dl4)) fun hc1095 => (pt_b1 (zX10_has _ _ (pt_I hq (pt_rf dl4) hc1095) _ _ rfl _ _ hq) fun r1096 => (pt_ite rfl (fun _ => (zX7_open_58 hk24  _ _ (pt_rf dl0) _ _ rfl _ _ rfl _ _ (pt_rf dl4) _ _ rfl _ _ hq)) (fun _ => (pt_ck (pt_kc hq (pt_rf dl0)) fun hc1097 => (pt_letr (pt_R hq (pt_rf dl0) hc1097) fun a1098 d_a1098 => (pt_letr (pt_R hq (pt_rf dl0) hc1097) fun a1099 d_a1099 => (pt_ck (pt_in hq (pt_rf d_a1099) rfl) fun hi1100 => (pt_ck (pt_in hq (pt_rf d_a1098) (pt_Ia hq (pt_rf d_a1099) hi1100.1 rfl)) fun hi1101 => (pt_leti (pt_e2 (fun (a b : Int32) => a &&& b) rfl (pt_Ia hq (pt_rf d_a1098) hi1101.1 (pt_Ia hq (pt_rf d_a1099) hi1100.1 rfl))) fun x1102 => (zX7_open_58 hk24  _ _ (pt_rf dl0) _ _ rfl _ _ rfl _ _ (pt_rf dl4) _ _ rfl _ _ hq)))))))))))))
theorem zX7_open {p : Nat → Nat} {v0 r0 : ml_M} : ∀ (l0 l0' : Nat) (hl0 : pt_r p l0 l0') (l1 l1' : Int32) (hl1 : l1 = l1') (l2 l2' : Int32) (hl2 : l2 = l2') (m n : ml_M) (hq : pt_Q p v0 r0 m n), pt_T pt_Wv (fX7_open l0 l1 l2 m) (fX7_open l0' l1' l2' n) := by
  intro l0 l0' hl0 l1 l1' hl1 l2 l2' hl2 m n hq
  obtain ⟨rfl, dl0⟩ := hl0
  subst hl1
  subst hl2
  unfold fX7_open
  exact (pt_ck (pt_kc hq (pt_rf dl0)) fun hc1103 => (pt_leti (pt_e2 (fun (a b : Int32) => a &&& b) (pt_e2 (fun (a b : Int32) => a - b) (pt_e2 (fun (a b : Int32) => a <<< (b &&& 31)) rfl (pt_I hq (pt_rf dl0) hc1103)) rfl) rfl) fun x1104 => (pt_letr (pt_R hq (pt_rf dl0) hc1103) fun a1105 d_a1105 => (pt_ck (pt_in hq (pt_rf d_a1105) rfl) fun hi1106 => pt_letr (pt_Ra hq (pt_rf d_a1105) hi1106.1 rfl) fun a1107 d_a1107 => (zX7_open_24  ml_fu _ _ (pt_rf dl0) _ _ rfl _ _ rfl _ _ (pt_rf d_a1107) _ _ rfl _ _ hq)))))
theorem zX7_give_91 {p : Nat → Nat} {v0 r0 : ml_M} {kr kr' : Nat → Int32 → Int32 → Int32 → ml_M → Option ml_M} (hkr : ∀ (q0 q0' : Nat) (hq0 : pt_r p q0 q0') (q1 q1' : Int32) (hq1 : q1 = q1') (q2 q2' : Int32) (hq2 : q2 = q2') (q3 q3' : Int32) (hq3 : q3 = q3') (m n : ml_M) (hq : pt_Q p v0 r0 m n), pt_T (pt_WM p v0 r0) (kr q0 q1 q2 q3 m) (kr' q0' q1' q2' q3' n)) {k34 k34' : Nat → Int32 → Int32 → Int32 → Int32 → Int32 → ml_M → Option ml_M} (hk34 : ∀ (l0 l0' : Nat) (hl0 : pt_r p l0 l0') (l1 l1' : Int32) (hl1 : l1 = l1') (l2 l2' : Int32) (hl2 : l2 = l2') (l3 l3' : Int32) (hl3 : l3 = l3') (l4 l4' : Int32) (hl4 : l4 = l4') (l5 l5' : Int32) (hl5 : l5 = l5') (m n : ml_M) (hq : pt_Q p v0 r0 m n), pt_T (pt_WM p v0 r0) (k34 l0 l1 l2 l3 l4 l5 m) (k34' l0' l1' l2' l3' l4' l5' n)) : ∀ (l0 l0' : Nat) (hl0 : pt_r p l0 l0') (l1 l1' : Int32) (hl1 : l1 = l1') (l2 l2' : Int32) (hl2 : l2 = l2') (l3 l3' : Int32) (hl3 : l3 = l3') (l4 l4' : Int32) (hl4 : l4 = l4') (l5 l5' : Int32) (hl5 : l5 = l5') (m n : ml_M) (hq : pt_Q p v0 r0 m n), pt_T (pt_WM p v0 r0) (fX7_give_91 kr k34 l0 l1 l2 l3 l4 l5 m) (fX7_give_91 kr' k34' l0' l1' l2' l3' l4' l5' n) := by
  intro l0 l0' hl0 l1 l1' hl1 l2 l2' hl2 l3 l3' hl3 l4 l4' hl4 l5 l5' hl5 m n hq
  obtain ⟨rfl, dl0⟩ := hl0
  subst hl1
  subst hl2
  subst hl3
  subst hl4
  subst hl5
  unfold fX7_give_91
  exact (hk34 _ _ (pt_rf dl0) _ _ rfl _ _ rfl _ _ rfl _ _ rfl _ _ rfl _ _ hq)
theorem zX7_give_34 {p : Nat → Nat} {v0 r0 : ml_M} {kr kr' : Nat → Int32 → Int32 → Int32 → ml_M → Option ml_M} (hkr : ∀ (q0 q0' : Nat) (hq0 : pt_r p q0 q0') (q1 q1' : Int32) (hq1 : q1 = q1') (q2 q2' : Int32) (hq2 : q2 = q2') (q3 q3' : Int32) (hq3 : q3 = q3') (m n : ml_M) (hq : pt_Q p v0 r0 m n), pt_T (pt_WM p v0 r0) (kr q0 q1 q2 q3 m) (kr' q0' q1' q2' q3' n)) : ∀ (fu : Nat) (l0 l0' : Nat) (hl0 : pt_r p l0 l0') (l1 l1' : Int32) (hl1 : l1 = l1') (l2 l2' : Int32) (hl2 : l2 = l2') (l3 l3' : Int32) (hl3 : l3 = l3') (l4 l4' : Int32) (hl4 : l4 = l4') (l5 l5' : Int32) (hl5 : l5 = l5') (m n : ml_M) (hq : pt_Q p v0 r0 m n), pt_T (pt_WM p v0 r0) (fX7_give_34 kr fu l0 l1 l2 l3 l4 l5 m) (fX7_give_34 kr' fu l0' l1' l2' l3' l4' l5' n) := by
  intro fu
  induction fu with
  | zero => intro l0 l0' hl0 l1 l1' hl1 l2 l2' hl2 l3 l3' hl3 l4 l4' hl4 l5 l5' hl5 m n hq; exact pt_none
  | succ fu ih =>
  intro l0 l0' hl0 l1 l1' hl1 l2 l2' hl2 l3 l3' hl3 l4 l4' hl4 l5 l5' hl5 m n hq
  obtain ⟨rfl, dl0⟩ := hl0
  subst hl1
  subst hl2
  subst hl3
  subst hl4
  subst hl5
  have hk34 := ih
  unfold fX7_give_34
  exact (pt_ck (pt_kc hq (pt_rf dl0)) fun hc1108 => (pt_ite (pt_e2 (fun (a b : Int32) => b ≤ a) rfl (pt_I hq (pt_rf dl0) hc1108)) (fun _ => (pt_retM hq)) (fun _ => (pt_b1 (zX10_has _ _ rfl _ _ rfl _ _ hq) fun r1109 => (pt_ite rfl (fun _ => (zX7_give_91 hkr hk34  _ _ (pt_rf dl0) _ _ rfl _ _ rfl _ _ rfl _ _ rfl _ _ rfl _ _ hq)) (fun _ => (pt_letr (pt_R hq (pt_rf dl0) hc1108) fun a1110 d_a1110 => (pt_ck (pt_in hq (pt_rf d_a1110) rfl) fun hi1111 => (pt_letk rfl (pt_sIa hq (pt_rf d_a1110) rfl rfl) fun m1112 n1113 em1114 hq1115 => (pt_letr (pt_R hq1115 (pt_rf dl0) (ml_kk em1114 hc1108)) fun a1116 d_a1116 => (pt_ck (pt_in hq1115 (pt_rf d_a1116) rfl) fun hi1117 => (pt_b1m (hkr _ _ (pt_rf dl0) _ _ rfl _ _ rfl _ _ (pt_e2 (fun (a b : Int32) => a + b) rfl (pt_Ia hq1115 (pt_rf d_a1116) hi1117.1 rfl)) _ _ hq1115) fun m1118 n1119 hq1120 => (zX7_give_91 hkr hk34  _ _ (pt_rf dl0) _ _ rfl _ _ rfl _ _ rfl _ _ rfl _ _ rfl _ _ hq1120)))))))))))))
theorem zX7_give_b {p : Nat → Nat} {v0 r0 : ml_M} {kr kr' : Nat → Int32 → Int32 → Int32 → ml_M → Option ml_M} (hkr : ∀ (q0 q0' : Nat) (hq0 : pt_r p q0 q0') (q1 q1' : Int32) (hq1 : q1 = q1') (q2 q2' : Int32) (hq2 : q2 = q2') (q3 q3' : Int32) (hq3 : q3 = q3') (m n : ml_M) (hq : pt_Q p v0 r0 m n), pt_T (pt_WM p v0 r0) (kr q0 q1 q2 q3 m) (kr' q0' q1' q2' q3' n)) : ∀ (l0 l0' : Nat) (hl0 : pt_r p l0 l0') (l1 l1' : Int32) (hl1 : l1 = l1') (l2 l2' : Int32) (hl2 : l2 = l2') (l3 l3' : Int32) (hl3 : l3 = l3') (m n : ml_M) (hq : pt_Q p v0 r0 m n), pt_T (pt_WM p v0 r0) (fX7_give_b kr l0 l1 l2 l3 m) (fX7_give_b kr' l0' l1' l2' l3' n) := by
  intro l0 l0' hl0 l1 l1' hl1 l2 l2' hl2 l3 l3' hl3 m n hq
  obtain ⟨rfl, dl0⟩ := hl0
  subst hl1
  subst hl2
  subst hl3
  unfold fX7_give_b
  exact (pt_ck (pt_kc hq (pt_rf dl0)) fun hc1121 => (pt_ite (pt_e2 (fun (a b : Int32) => a < b) rfl (pt_I hq (pt_rf dl0) hc1121)) (fun _ => (pt_b1 (zX7_open _ _ (pt_rf dl0) _ _ rfl _ _ rfl _ _ hq) fun r1122 => (zX7_give_34 hkr ml_fu _ _ (pt_rf dl0) _ _ rfl _ _ rfl _ _ rfl _ _ rfl _ _ rfl _ _ hq))) (fun _ => (pt_letr (pt_R hq (pt_rf dl0) hc1121) fun a1123 d_a1123 => (pt_ck (pt_in hq (pt_rf d_a1123) rfl) fun hi1124 => (pt_ite (pt_e1 (fun (a : Int32) => a = 0) (pt_Ia hq (pt_rf d_a1123) hi1124.1 rfl)) (fun _ => (pt_retM hq)) (fun _ => (pt_b1m (zX7_note _ _ (pt_rf dl0) _ _ rfl _ _ hq) fun m1125 n1126 hq1127 => (pt_retM hq1127)))))))))
theorem zX7_give {p : Nat → Nat} {v0 r0 : ml_M} : ∀ (fu : Nat) (l0 l0' : Nat) (hl0 : pt_r p l0 l0') (l1 l1' : Int32) (hl1 : l1 = l1') (l2 l2' : Int32) (hl2 : l2 = l2') (l3 l3' : Int32) (hl3 : l3 = l3') (m n : ml_M) (hq : pt_Q p v0 r0 m n), pt_T (pt_WM p v0 r0) (fX7_give fu l0 l1 l2 l3 m) (fX7_give fu l0' l1' l2' l3' n) := by
  intro fu
  induction fu with
  | zero => intro l0 l0' hl0 l1 l1' hl1 l2 l2' hl2 l3 l3' hl3 m n hq; exact pt_none
  | succ fu ih =>
  intro l0 l0' hl0 l1 l1' hl1 l2 l2' hl2 l3 l3' hl3 m n hq
  exact zX7_give_b ih l0 l0' hl0 l1 l1' hl1 l2 l2' hl2 l3 l3' hl3 m n hq
theorem zX7_gather_149 {p : Nat → Nat} {v0 r0 : ml_M} {k76 k76' : Nat → Int32 → ml_M → Option ml_M} (hk76 : ∀ (l0 l0' : Nat) (hl0 : pt_r p l0 l0') (l4 l4' : Int32) (hl4 : l4 = l4') (m n : ml_M) (hq : pt_Q p v0 r0 m n), pt_T (pt_WM p v0 r0) (k76 l0 l4 m) (k76' l0' l4' n)) : ∀ (l0 l0' : Nat) (hl0 : pt_r p l0 l0') (l4 l4' : Int32) (hl4 : l4 = l4') (m n : ml_M) (hq : pt_Q p v0 r0 m n), pt_T (pt_WM p v0 r0) (fX7_gather_149 k76 l0 l4 m) (fX7_gather_149 k76' l0' l4' n) := by
  intro l0 l0' hl0 l4 l4' hl4 m n hq
  obtain ⟨rfl, dl0⟩ := hl0
  subst hl4
  unfold fX7_gather_149
  exact (hk76 _ _ (pt_rf dl0) _ _ rfl _ _ hq)
theorem zX7_gather_105 {p : Nat → Nat} {v0 r0 : ml_M} {k76 k76' : Nat → Int32 → ml_M → Option ml_M} (hk76 : ∀ (l0 l0' : Nat) (hl0 : pt_r p l0 l0') (l4 l4' : Int32) (hl4 : l4 = l4') (m n : ml_M) (hq : pt_Q p v0 r0 m n), pt_T (pt_WM p v0 r0) (k76 l0 l4 m) (k76' l0' l4' n)) : ∀ (fu : Nat) (l0 l0' : Nat) (hl0 : pt_r p l0 l0') (l4 l4' : Int32) (hl4 : l4 = l4') (l5 l5' : Int32) (hl5 : l5 = l5') (m n : ml_M) (hq : pt_Q p v0 r0 m n), pt_T (pt_WM p v0 r0) (fX7_gather_105 k76 fu l0 l4 l5 m) (fX7_gather_105 k76' fu l0' l4' l5' n) := by
  intro fu
  induction fu with
  | zero => intro l0 l0' hl0 l4 l4' hl4 l5 l5' hl5 m n hq; exact pt_none
  | succ fu ih =>
  intro l0 l0' hl0 l4 l4' hl4 l5 l5' hl5 m n hq
  obtain ⟨rfl, dl0⟩ := hl0
  subst hl4
  subst hl5
  have hk105 := ih
  unfold fX7_gather_105
  exact (pt_ite rfl (fun _ => (zX7_gather_149 hk76  _ _ (pt_rf dl0) _ _ rfl _ _ hq)) (fun _ => (pt_ck (pt_kc hq (pt_rf dl0)) fun hc1128 => (pt_letr (pt_R hq (pt_rf dl0) hc1128) fun a1129 d_a1129 => (pt_ck (pt_in hq (pt_rf d_a1129) rfl) fun hi1130 => (pt_letr (pt_R hq (pt_rf dl0) hc1128) fun a1131 d_a1131 => (pt_ck (pt_in hq (pt_rf d_a1131) rfl) fun hi1132 => (pt_ck (pt_in hq (pt_rf d_a1129) rfl) fun hi1133 => (pt_letk rfl (pt_sIa hq (pt_rf d_a1129) rfl (pt_e2 (fun (a b : Int32) => a + b) (pt_Ia hq (pt_rf d_a1129) hi1130.1 rfl) (pt_Ia hq (pt_rf d_a1131) hi1132.1 rfl))) fun m1134 n1135 em1136 hq1137 => (hk105 _ _ (pt_rf dl0) _ _ rfl _ _ rfl _ _ hq1137))))))))))
theorem zX7_gather_155 {p : Nat → Nat} {v0 r0 : ml_M} : ∀ (l0 l0' : Nat) (hl0 : pt_r p l0 l0') (m n : ml_M) (hq : pt_Q p v0 r0 m n), pt_T (pt_WM p v0 r0) (fX7_gather_155 l0 m) (fX7_gather_155 l0' n) := by
  intro l0 l0' hl0 m n hq
  obtain ⟨rfl, dl0⟩ := hl0
  unfold fX7_gather_155
  exact (pt_ck (pt_kc hq (pt_rf dl0)) fun hc1138 => (pt_letk rfl (pt_sI hq (pt_rf dl0) rfl) fun m1139 n1140 em1141 hq1142 => (pt_retM hq1142)))
theorem zX7_gather_76 {p : Nat → Nat} {v0 r0 : ml_M} : ∀ (fu : Nat) (l0 l0' : Nat) (hl0 : pt_r p l0 l0') (l4 l4' : Int32) (hl4 : l4 = l4') (m n : ml_M) (hq : pt_Q p v0 r0 m n), pt_T (pt_WM p v0 r0) (fX7_gather_76 fu l0 l4 m) (fX7_gather_76 fu l0' l4' n) := by
  intro fu
  induction fu with
  | zero => intro l0 l0' hl0 l4 l4' hl4 m n hq; exact pt_none
  | succ fu ih =>
  intro l0 l0' hl0 l4 l4' hl4 m n hq
  obtain ⟨rfl, dl0⟩ := hl0
  subst hl4
  have hk76 := ih
  unfold fX7_gather_76
  exact (pt_ite rfl (fun _ => (zX7_gather_155   _ _ (pt_rf dl0) _ _ hq)) (fun _ => (pt_ck (pt_kc hq (pt_rf dl0)) fun hc1143 => (pt_letr (pt_R hq (pt_rf dl0) hc1143) fun a1144 d_a1144 => (pt_ck (pt_in hq (pt_rf d_a1144) rfl) fun hi1145 => (pt_letr (pt_R hq (pt_rf dl0) hc1143) fun a1146 d_a1146 => (pt_ck (pt_in hq (pt_rf d_a1146) rfl) fun hi1147 => (pt_ck (pt_in hq (pt_rf d_a1144) rfl) fun hi1148 => (pt_letk rfl (pt_sIa hq (pt_rf d_a1144) rfl (pt_e2 (fun (a b : Int32) => a + b) (pt_Ia hq (pt_rf d_a1144) hi1145.1 rfl) (pt_Ia hq (pt_rf d_a1146) hi1147.1 rfl))) fun m1149 n1150 em1151 hq1152 => (zX7_gather_105 hk76 ml_fu _ _ (pt_rf dl0) _ _ rfl _ _ rfl _ _ hq1152))))))))))
theorem zX7_gather {p : Nat → Nat} {v0 r0 : ml_M} : ∀ (l0 l0' : Nat) (hl0 : pt_r p l0 l0') (l1 l1' : Nat) (hl1 : pt_r p l1 l1') (l2 l2' : Nat) (hl2 : pt_r p l2 l2') (l3 l3' : Int32) (hl3 : l3 = l3') (m n : ml_M) (hq : pt_Q p v0 r0 m n), pt_T (pt_WM p v0 r0) (fX7_gather l0 l1 l2 l3 m) (fX7_gather l0' l1' l2' l3' n) := by
  intro l0 l0' hl0 l1 l1' hl1 l2 l2' hl2 l3 l3' hl3 m n hq
  obtain ⟨rfl, dl0⟩ := hl0
  obtain ⟨rfl, dl1⟩ := hl1
  obtain ⟨rfl, dl2⟩ := hl2
  subst hl3
  unfold fX7_gather
  exact (pt_ck (pt_kc hq (pt_rf dl1)) fun hc1153 => (pt_letr (pt_R hq (pt_rf dl1) hc1153) fun a1154 d_a1154 => (pt_ck (pt_kc hq (pt_rf dl0)) fun hc1155 => (pt_letk rfl (pt_sR hq (pt_rf dl0) (pt_rf d_a1154)) fun m1156 n1157 em1158 hq1159 => (pt_letk rfl (pt_sI hq1159 (pt_rf dl0) (pt_I hq1159 (pt_rf dl1) (ml_kk em1158 hc1153))) fun m1160 n1161 em1162 hq1163 => (pt_letk rfl (pt_sI hq1163 (pt_rf dl0) (pt_I hq1163 (pt_rf dl1) (ml_kk em1162 (ml_kk em1158 hc1153)))) fun m1164 n1165 em1166 hq1167 => (pt_letr (pt_R hq1167 (pt_rf dl1) (ml_kk em1166 (ml_kk em1162 (ml_kk em1158 hc1153)))) fun a1168 d_a1168 => (pt_b1m (zX7_compareYears _ _ (pt_rf dl0) _ _ (pt_rf d_a1168) _ _ hq1167) fun m1169 n1170 hq1171 => (pt_ck (pt_kc hq1171 (pt_rf dl0)) fun hc1172 => (pt_b1m (zX7_countStrangers _ _ (pt_rf dl0) _ _ (pt_rf dl2) _ _ rfl _ _ hq1171) fun m1173 n1174 hq1175 => (pt_ck (pt_kc hq1175 (pt_rf dl0)) fun hc1176 => (pt_b1m (zX7_findCovers _ _ (pt_rf dl0) _ _ (pt_rf dl2) _ _ rfl _ _ hq1175) fun m1177 n1178 hq1179 => (pt_ck (pt_kc hq1179 (pt_rf dl0)) fun hc1180 => (pt_letk rfl (pt_sI hq1179 (pt_rf dl0) rfl) fun m1181 n1182 em1183 hq1184 => (pt_letr (pt_R hq1184 (pt_rf dl0) (ml_kk em1183 hc1180)) fun a1185 d_a1185 => (pt_b1m (zJ7_fill_53178 _ _ (pt_rf d_a1185) _ _ rfl _ _ hq1184) fun m1186 n1187 hq1188 => (pt_ck (pt_kc hq1188 (pt_rf dl0)) fun hc1189 => (pt_letr (pt_R hq1188 (pt_rf dl0) hc1189) fun a1190 d_a1190 => (pt_b1m (zJ7_fill_53178 _ _ (pt_rf d_a1190) _ _ rfl _ _ hq1188) fun m1191 n1192 hq1193 => (pt_b1m (zX7_give 12 _ _ (pt_rf dl0) _ _ rfl _ _ rfl _ _ rfl _ _ hq1193) fun m1194 n1195 hq1196 => (zX7_gather_76  ml_fu _ _ (pt_rf dl0) _ _ rfl _ _ hq1196)))))))))))))))))))))
theorem zX10_refreshSharings {p : Nat → Nat} {v0 r0 : ml_M} : ∀ (l0 l0' : Nat) (hl0 : pt_r p l0 l0') (m n : ml_M) (hq : pt_Q p v0 r0 m n), pt_T (pt_WM p v0 r0) (fX10_refreshSharings l0 m) (fX10_refreshSharings l0' n) := by
  intro l0 l0' hl0 m n hq
  obtain ⟨rfl, dl0⟩ := hl0
  unfold fX10_refreshSharings
  exact (pt_ck (pt_kc hq (pt_rf dl0)) fun hc1197 => (pt_letr (pt_R hq (pt_rf dl0) hc1197) fun a1198 d_a1198 => (pt_ck (pt_kc hq (pt_rf d_a1198)) fun hc1199 => (pt_ite (pt_e1 (fun (a : Int32) => a = 0) (pt_I hq (pt_rf d_a1198) hc1199)) (fun _ => (pt_retM hq)) (fun _ => (pt_letr (pt_R hq (pt_rf dl0) hc1197) fun a1200 d_a1200 => (pt_letr (pt_R hq (pt_rf dl0) hc1197) fun a1201 d_a1201 => (pt_letr (pt_R hq (pt_rf dl0) hc1197) fun a1202 d_a1202 => (pt_ck (pt_kc hq (pt_rf d_a1200)) fun hc1203 => (pt_b1m (zX7_gather _ _ (pt_rf d_a1200) _ _ (pt_rf d_a1201) _ _ (pt_rf d_a1202) _ _ (pt_I hq (pt_rf dl0) hc1197) _ _ hq) fun m1204 n1205 hq1206 => (pt_retM hq1206)))))))))))
theorem zX10_share {p : Nat → Nat} {v0 r0 : ml_M} : ∀ (l0 l0' : Nat) (hl0 : pt_r p l0 l0') (l1 l1' : Int32) (hl1 : l1 = l1') (m n : ml_M) (hq : pt_Q p v0 r0 m n), pt_T (pt_WV p v0 r0) (fX10_share l0 l1 m) (fX10_share l0' l1' n) := by
  intro l0 l0' hl0 l1 l1' hl1 m n hq
  obtain ⟨rfl, dl0⟩ := hl0
  subst hl1
  unfold fX10_share
  exact (pt_b1 (zX10_isRow _ _ rfl _ _ hq) fun r1207 => (pt_ite rfl (fun _ => (pt_retV rfl hq)) (fun _ => (pt_ck (pt_kc hq (pt_rf dl0)) fun hc1208 => (pt_b1m (zX10_refreshSharings _ _ (pt_rf dl0) _ _ hq) fun m1209 n1210 hq1211 => (pt_ck (pt_kc hq1211 (pt_rf dl0)) fun hc1212 => (pt_letr (pt_R hq1211 (pt_rf dl0) hc1212) fun a1213 d_a1213 => (pt_ck (pt_kc hq1211 (pt_rf d_a1213)) fun hc1214 => (pt_ite (pt_e2 (fun (a b : Int32) => a = b) (pt_I hq1211 (pt_rf d_a1213) hc1214) rfl) (fun _ => (pt_retV rfl hq1211)) (fun _ => (pt_letr (pt_R hq1211 (pt_rf dl0) hc1212) fun a1215 d_a1215 => (pt_letr (pt_R hq1211 (pt_rf dl0) hc1212) fun a1216 d_a1216 => (pt_ck (pt_kc hq1211 (pt_rf d_a1216)) fun hc1217 => (pt_letr (pt_R hq1211 (pt_rf d_a1216) hc1217) fun a1218 d_a1218 => (pt_letr (pt_R hq1211 (pt_rf dl0) hc1212) fun a1219 d_a1219 => (pt_ck (pt_kc hq1211 (pt_rf d_a1219)) fun hc1220 => (pt_b2r (zJ7_copyOf_59c91 _ _ (pt_rf d_a1218) _ _ (pt_I hq1211 (pt_rf d_a1219) hc1220) _ _ hq1211) fun a1221 m1222 n1223 d_a1221 hq1224 => (pt_ck (pt_kc hq1224 (pt_rf d_a1221)) fun hc1226 => (pt_ck (pt_in hq1224 (pt_rf d_a1215) rfl) fun hi1225 => (pt_letk rfl (pt_sRa hq1224 (pt_rf d_a1215) rfl (pt_rf d_a1221)) fun m1227 n1228 em1229 hq1230 => (pt_ck (pt_kc hq1230 (pt_rf dl0)) fun hc1231 => (pt_letr (pt_R hq1230 (pt_rf dl0) hc1231) fun a1232 d_a1232 => (pt_ck (pt_kc hq1230 (pt_rf d_a1232)) fun hc1233 => (pt_retV (pt_I hq1230 (pt_rf d_a1232) hc1233) hq1230))))))))))))))))))))))))
theorem zX10_many {p : Nat → Nat} {v0 r0 : ml_M} : ∀ (l0 l0' : Nat) (hl0 : pt_r p l0 l0') (m n : ml_M) (hq : pt_Q p v0 r0 m n), pt_T pt_Wv (fX10_many l0 m) (fX10_many l0' n) := by
  intro l0 l0' hl0 m n hq
  obtain ⟨rfl, dl0⟩ := hl0
  unfold fX10_many
  exact (pt_ck (pt_kc hq (pt_rf dl0)) fun hc1234 => (pt_rtv (pt_J hq (pt_rf dl0) hc1234)))
theorem zX10_canFollow {p : Nat → Nat} {v0 r0 : ml_M} : ∀ (l0 l0' : Nat) (hl0 : pt_r p l0 l0') (l1 l1' : Int32) (hl1 : l1 = l1') (l2 l2' : Int32) (hl2 : l2 = l2') (m n : ml_M) (hq : pt_Q p v0 r0 m n), pt_T pt_Wv (fX10_canFollow l0 l1 l2 m) (fX10_canFollow l0' l1' l2' n) := by
  intro l0 l0' hl0 l1 l1' hl1 l2 l2' hl2 m n hq
  obtain ⟨rfl, dl0⟩ := hl0
  subst hl1
  subst hl2
  unfold fX10_canFollow
  exact (pt_b1 (zX10_has _ _ rfl _ _ rfl _ _ hq) fun r1235 => (pt_ite rfl (fun _ => (pt_ck (pt_kc hq (pt_rf dl0)) fun hc1236 => (pt_letr (pt_R hq (pt_rf dl0) hc1236) fun a1237 d_a1237 => (pt_ck (pt_kc hq (pt_rf d_a1237)) fun hc1238 => (pt_letr (pt_R hq (pt_rf d_a1237) hc1238) fun a1239 d_a1239 => (pt_ck (pt_in hq (pt_rf d_a1239) rfl) fun hi1240 => pt_letr (pt_Ra hq (pt_rf d_a1239) hi1240.1 rfl) fun a1241 d_a1241 => (pt_ck (pt_kc hq (pt_rf d_a1241)) fun hc1242 => (pt_ite (pt_e1 (fun (a : Int32) => a = 0) (pt_e2 (fun (a b : Int32) => a &&& b) (pt_I hq (pt_rf d_a1241) hc1242) rfl)) (fun _ => (pt_rtv rfl)) (fun _ => (pt_rtv rfl)))))))))) (fun _ => (pt_rtv rfl))))
theorem zX10_firstToFollow_2 {p : Nat → Nat} {v0 r0 : ml_M} : ∀ (fu : Nat) (l0 l0' : Nat) (hl0 : pt_r p l0 l0') (l1 l1' : Int32) (hl1 : l1 = l1') (l2 l2' : Int32) (hl2 : l2 = l2') (m n : ml_M) (hq : pt_Q p v0 r0 m n), pt_T pt_Wv (fX10_firstToFollow_2 fu l0 l1 l2 m) (fX10_firstToFollow_2 fu l0' l1' l2' n) := by
  intro fu
  induction fu with
  | zero => intro l0 l0' hl0 l1 l1' hl1 l2 l2' hl2 m n hq; exact pt_none
  | succ fu ih =>
  intro l0 l0' hl0 l1 l1' hl1 l2 l2' hl2 m n hq
  obtain ⟨rfl, dl0⟩ := hl0
  subst hl1
  subst hl2
  have hk2 := ih
  unfold fX10_firstToFollow_2
  exact (pt_ck (pt_kc hq (pt_rf dl0)) fun hc1243 => (pt_letr (pt_R hq (pt_rf dl0) hc1243) fun a1244 d_a1244 => (pt_ck (pt_kc hq (pt_rf d_a1244)) fun hc1245 => (pt_ite (pt_e2 (fun (a b : Int32) => b ≤ a) rfl (pt_I hq (pt_rf d_a1244) hc1245)) (fun _ => (pt_rtv rfl)) (fun _ => (pt_b1 (zX10_canFollow _ _ (pt_rf dl0) _ _ rfl _ _ rfl _ _ hq) fun r1246 => (pt_ite rfl (fun _ => (hk2 _ _ (pt_rf dl0) _ _ rfl _ _ rfl _ _ hq)) (fun _ => (pt_rtv rfl)))))))))
theorem zX10_firstToFollow {p : Nat → Nat} {v0 r0 : ml_M} : ∀ (l0 l0' : Nat) (hl0 : pt_r p l0 l0') (l1 l1' : Int32) (hl1 : l1 = l1') (m n : ml_M) (hq : pt_Q p v0 r0 m n), pt_T pt_Wv (fX10_firstToFollow l0 l1 m) (fX10_firstToFollow l0' l1' n) := by
  intro l0 l0' hl0 l1 l1' hl1 m n hq
  obtain ⟨rfl, dl0⟩ := hl0
  subst hl1
  unfold fX10_firstToFollow
  exact (zX10_firstToFollow_2  ml_fu _ _ (pt_rf dl0) _ _ rfl _ _ rfl _ _ hq)
theorem zX10_ordersOfAll_63 {p : Nat → Nat} {v0 r0 : ml_M} {k26 k26' : Nat → Int32 → Nat → Int32 → ml_M → Option (Int32 × ml_M)} (hk26 : ∀ (l0 l0' : Nat) (hl0 : pt_r p l0 l0') (l1 l1' : Int32) (hl1 : l1 = l1') (l2 l2' : Nat) (hl2 : pt_r p l2 l2') (l3 l3' : Int32) (hl3 : l3 = l3') (m n : ml_M) (hq : pt_Q p v0 r0 m n), pt_T (pt_WV p v0 r0) (k26 l0 l1 l2 l3 m) (k26' l0' l1' l2' l3' n)) {k33 k33' : Nat → Int32 → Nat → Int32 → Int32 → ml_M → Option (Int32 × ml_M)} (hk33 : ∀ (l0 l0' : Nat) (hl0 : pt_r p l0 l0') (l1 l1' : Int32) (hl1 : l1 = l1') (l2 l2' : Nat) (hl2 : pt_r p l2 l2') (l3 l3' : Int32) (hl3 : l3 = l3') (l4 l4' : Int32) (hl4 : l4 = l4') (m n : ml_M) (hq : pt_Q p v0 r0 m n), pt_T (pt_WV p v0 r0) (k33 l0 l1 l2 l3 l4 m) (k33' l0' l1' l2' l3' l4' n)) : ∀ (l0 l0' : Nat) (hl0 : pt_r p l0 l0') (l1 l1' : Int32) (hl1 : l1 = l1') (l2 l2' : Nat) (hl2 : pt_r p l2 l2') (l3 l3' : Int32) (hl3 : l3 = l3') (l4 l4' : Int32) (hl4 : l4 = l4') (m n : ml_M) (hq : pt_Q p v0 r0 m n), pt_T (pt_WV p v0 r0) (fX10_ordersOfAll_63 k26 k33 l0 l1 l2 l3 l4 m) (fX10_ordersOfAll_63 k26' k33' l0' l1' l2' l3' l4' n) := by
  intro l0 l0' hl0 l1 l1' hl1 l2 l2' hl2 l3 l3' hl3 l4 l4' hl4 m n hq
  obtain ⟨rfl, dl0⟩ := hl0
  subst hl1
  obtain ⟨rfl, dl2⟩ := hl2
  subst hl3
  subst hl4
  unfold fX10_ordersOfAll_63
  exact (hk33 _ _ (pt_rf dl0) _ _ rfl _ _ (pt_rf dl2) _ _ rfl _ _ rfl _ _ hq)
theorem zX10_ordersOfAll_69 {p : Nat → Nat} {v0 r0 : ml_M} {k26 k26' : Nat → Int32 → Nat → Int32 → ml_M → Option (Int32 × ml_M)} (hk26 : ∀ (l0 l0' : Nat) (hl0 : pt_r p l0 l0') (l1 l1' : Int32) (hl1 : l1 = l1') (l2 l2' : Nat) (hl2 : pt_r p l2 l2') (l3 l3' : Int32) (hl3 : l3 = l3') (m n : ml_M) (hq : pt_Q p v0 r0 m n), pt_T (pt_WV p v0 r0) (k26 l0 l1 l2 l3 m) (k26' l0' l1' l2' l3' n)) : ∀ (l0 l0' : Nat) (hl0 : pt_r p l0 l0') (l1 l1' : Int32) (hl1 : l1 = l1') (l2 l2' : Nat) (hl2 : pt_r p l2 l2') (l3 l3' : Int32) (hl3 : l3 = l3') (m n : ml_M) (hq : pt_Q p v0 r0 m n), pt_T (pt_WV p v0 r0) (fX10_ordersOfAll_69 k26 l0 l1 l2 l3 m) (fX10_ordersOfAll_69 k26' l0' l1' l2' l3' n) := by
  intro l0 l0' hl0 l1 l1' hl1 l2 l2' hl2 l3 l3' hl3 m n hq
  obtain ⟨rfl, dl0⟩ := hl0
  subst hl1
  obtain ⟨rfl, dl2⟩ := hl2
  subst hl3
  unfold fX10_ordersOfAll_69
  exact (hk26 _ _ (pt_rf dl0) _ _ rfl _ _ (pt_rf dl2) _ _ rfl _ _ hq)
theorem zX10_ordersOfAll_33 {p : Nat → Nat} {v0 r0 : ml_M} {k26 k26' : Nat → Int32 → Nat → Int32 → ml_M → Option (Int32 × ml_M)} (hk26 : ∀ (l0 l0' : Nat) (hl0 : pt_r p l0 l0') (l1 l1' : Int32) (hl1 : l1 = l1') (l2 l2' : Nat) (hl2 : pt_r p l2 l2') (l3 l3' : Int32) (hl3 : l3 = l3') (m n : ml_M) (hq : pt_Q p v0 r0 m n), pt_T (pt_WV p v0 r0) (k26 l0 l1 l2 l3 m) (k26' l0' l1' l2' l3' n)) : ∀ (fu : Nat) (l0 l0' : Nat) (hl0 : pt_r p l0 l0') (l1 l1' : Int32) (hl1 : l1 = l1') (l2 l2' : Nat) (hl2 : pt_r p l2 l2') (l3 l3' : Int32) (hl3 : l3 = l3') (l4 l4' : Int32) (hl4 : l4 = l4') (m n : ml_M) (hq : pt_Q p v0 r0 m n), pt_T (pt_WV p v0 r0) (fX10_ordersOfAll_33 k26 fu l0 l1 l2 l3 l4 m) (fX10_ordersOfAll_33 k26' fu l0' l1' l2' l3' l4' n) := by
  intro fu
  induction fu with
  | zero => intro l0 l0' hl0 l1 l1' hl1 l2 l2' hl2 l3 l3' hl3 l4 l4' hl4 m n hq; exact pt_none
  | succ fu ih =>
  intro l0 l0' hl0 l1 l1' hl1 l2 l2' hl2 l3 l3' hl3 l4 l4' hl4 m n hq
  obtain ⟨rfl, dl0⟩ := hl0
  subst hl1
  obtain ⟨rfl, dl2⟩ := hl2
  subst hl3
  subst hl4
  have hk33 := ih
  unfold fX10_ordersOfAll_33
  exact (pt_ite rfl (fun _ => (zX10_ordersOfAll_69 hk26  _ _ (pt_rf dl0) _ _ rfl _ _ (pt_rf dl2) _ _ rfl _ _ hq)) (fun _ => (pt_ck (pt_kc hq (pt_rf dl0)) fun hc1247 => (pt_b1 (zX10_canFollow _ _ (pt_rf dl0) _ _ rfl _ _ rfl _ _ hq) fun r1248 => (pt_ite rfl (fun _ => (zX10_ordersOfAll_63 hk26 hk33  _ _ (pt_rf dl0) _ _ rfl _ _ (pt_rf dl2) _ _ rfl _ _ rfl _ _ hq)) (fun _ => (pt_ck (pt_in hq (pt_rf dl2) rfl) fun hi1249 => (pt_ck (pt_in hq (pt_rf dl2) rfl) fun hi1250 => (pt_ck (pt_in hq (pt_rf dl2) rfl) fun hi1251 => (pt_letk rfl (pt_sIa hq (pt_rf dl2) rfl (pt_e2 (fun (a b : Int32) => a + b) (pt_Ia hq (pt_rf dl2) hi1249.1 rfl) (pt_Ia hq (pt_rf dl2) hi1250.1 rfl))) fun m1252 n1253 em1254 hq1255 => (zX10_ordersOfAll_63 hk26 hk33  _ _ (pt_rf dl0) _ _ rfl _ _ (pt_rf dl2) _ _ rfl _ _ rfl _ _ hq1255)))))))))))
theorem zX10_ordersOfAll_75 {p : Nat → Nat} {v0 r0 : ml_M} : ∀ (l2 l2' : Nat) (hl2 : pt_r p l2 l2') (m n : ml_M) (hq : pt_Q p v0 r0 m n), pt_T (pt_WV p v0 r0) (fX10_ordersOfAll_75 l2 m) (fX10_ordersOfAll_75 l2' n) := by
  intro l2 l2' hl2 m n hq
  obtain ⟨rfl, dl2⟩ := hl2
  unfold fX10_ordersOfAll_75
  exact (pt_ck (pt_in hq (pt_rf dl2) rfl) fun hi1256 => (pt_retV (pt_Ia hq (pt_rf dl2) hi1256.1 rfl) hq))
theorem zX10_ordersOfAll_26 {p : Nat → Nat} {v0 r0 : ml_M} : ∀ (fu : Nat) (l0 l0' : Nat) (hl0 : pt_r p l0 l0') (l1 l1' : Int32) (hl1 : l1 = l1') (l2 l2' : Nat) (hl2 : pt_r p l2 l2') (l3 l3' : Int32) (hl3 : l3 = l3') (m n : ml_M) (hq : pt_Q p v0 r0 m n), pt_T (pt_WV p v0 r0) (fX10_ordersOfAll_26 fu l0 l1 l2 l3 m) (fX10_ordersOfAll_26 fu l0' l1' l2' l3' n) := by
  intro fu
  induction fu with
  | zero => intro l0 l0' hl0 l1 l1' hl1 l2 l2' hl2 l3 l3' hl3 m n hq; exact pt_none
  | succ fu ih =>
  intro l0 l0' hl0 l1 l1' hl1 l2 l2' hl2 l3 l3' hl3 m n hq
  obtain ⟨rfl, dl0⟩ := hl0
  subst hl1
  obtain ⟨rfl, dl2⟩ := hl2
  subst hl3
  have hk26 := ih
  unfold fX10_ordersOfAll_26
  exact (pt_ite rfl (fun _ => (zX10_ordersOfAll_75   _ _ (pt_rf dl2) _ _ hq)) (fun _ => (zX10_ordersOfAll_33 hk26 ml_fu _ _ (pt_rf dl0) _ _ rfl _ _ (pt_rf dl2) _ _ rfl _ _ rfl _ _ hq)))
theorem zX10_ordersOfAll {p : Nat → Nat} {v0 r0 : ml_M} : ∀ (l0 l0' : Nat) (hl0 : pt_r p l0 l0') (m n : ml_M) (hq : pt_Q p v0 r0 m n), pt_T (pt_WV p v0 r0) (fX10_ordersOfAll l0 m) (fX10_ordersOfAll l0' n) := by
  intro l0 l0' hl0 m n hq
  obtain ⟨rfl, dl0⟩ := hl0
  unfold fX10_ordersOfAll
  exact (pt_ck (pt_kc hq (pt_rf dl0)) fun hc1257 => (pt_letr (pt_R hq (pt_rf dl0) hc1257) fun a1258 d_a1258 => (pt_ck (pt_kc hq (pt_rf d_a1258)) fun hc1259 => (pt_leti (pt_I hq (pt_rf d_a1258) hc1259) fun x1260 => (pt_ck (pt_lenc rfl) fun _ => (pt_al hq rfl rfl fun a1261 m1262 n1263 d_a1261 hc1264 hq1265 => (pt_ck (pt_in hq1265 (pt_rf d_a1261) (pt_e2 (fun (a b : Int32) => a - b) (pt_len hq1265 (pt_rf d_a1261)) rfl)) fun hi1266 => (pt_letk rfl (pt_sIa hq1265 (pt_rf d_a1261) (pt_e2 (fun (a b : Int32) => a - b) (pt_len hq1265 (pt_rf d_a1261)) rfl) rfl) fun m1267 n1268 em1269 hq1270 => (pt_leti (pt_e2 (fun (a b : Int32) => a - b) (pt_len hq1270 (pt_rf d_a1261)) rfl) fun x1271 => (zX10_ordersOfAll_26  ml_fu _ _ (pt_rf dl0) _ _ rfl _ _ (pt_rf d_a1261) _ _ rfl _ _ hq1270))))))))))
theorem zX10_piling_67 {p : Nat → Nat} {v0 r0 : ml_M} : ∀ (l0 l0' : Nat) (hl0 : pt_r p l0 l0') (l1 l1' : Int32) (hl1 : l1 = l1') (l2 l2' : Nat) (hl2 : pt_r p l2 l2') (m n : ml_M) (hq : pt_Q p v0 r0 m n), pt_T (pt_WV p v0 r0) (fX10_piling_67 l0 l1 l2 m) (fX10_piling_67 l0' l1' l2' n) := by
  intro l0 l0' hl0 l1 l1' hl1 l2 l2' hl2 m n hq
  obtain ⟨rfl, dl0⟩ := hl0
  subst hl1
  obtain ⟨rfl, dl2⟩ := hl2
  unfold fX10_piling_67
  exact (pt_ck (pt_kc hq (pt_rf dl0)) fun hc1272 => (pt_letr (pt_R hq (pt_rf dl0) hc1272) fun a1273 d_a1273 => (pt_ck (pt_kc hq (pt_rf dl2)) fun hc1275 => (pt_ck (pt_in hq (pt_rf d_a1273) rfl) fun hi1274 => (pt_letk rfl (pt_sRa hq (pt_rf d_a1273) rfl (pt_rf dl2)) fun m1276 n1277 em1278 hq1279 => (pt_b2 (zX10_ordersOfAll _ _ (pt_rf dl0) _ _ hq1279) fun r1280 m1281 n1282 hq1283 => (pt_retV rfl hq1283)))))))
theorem zX10_piling_24 {p : Nat → Nat} {v0 r0 : ml_M} : ∀ (fu : Nat) (l0 l0' : Nat) (hl0 : pt_r p l0 l0') (l1 l1' : Int32) (hl1 : l1 = l1') (l2 l2' : Nat) (hl2 : pt_r p l2 l2') (l3 l3' : Int32) (hl3 : l3 = l3') (l4 l4' : Int32) (hl4 : l4 = l4') (m n : ml_M) (hq : pt_Q p v0 r0 m n), pt_T (pt_WV p v0 r0) (fX10_piling_24 fu l0 l1 l2 l3 l4 m) (fX10_piling_24 fu l0' l1' l2' l3' l4' n) := by
  intro fu
  induction fu with
  | zero => intro l0 l0' hl0 l1 l1' hl1 l2 l2' hl2 l3 l3' hl3 l4 l4' hl4 m n hq; exact pt_none
  | succ fu ih =>
  intro l0 l0' hl0 l1 l1' hl1 l2 l2' hl2 l3 l3' hl3 l4 l4' hl4 m n hq
  obtain ⟨rfl, dl0⟩ := hl0
  subst hl1
  obtain ⟨rfl, dl2⟩ := hl2
  subst hl3
  subst hl4
  have hk24 := ih
  unfold fX10_piling_24
  exact (pt_ck (pt_kc hq (pt_rf dl2)) fun hc1284 => (pt_ite (pt_e2 (fun (a b : Int32) => b ≤ a) rfl (pt_len hq (pt_rf dl2))) (fun _ => (zX10_piling_67   _ _ (pt_rf dl0) _ _ rfl _ _ (pt_rf dl2) _ _ hq)) (fun _ => (pt_ck (pt_kc hq (pt_rf dl0)) fun hc1285 => (pt_b1 (zX10_firstToFollow _ _ (pt_rf dl0) _ _ rfl _ _ hq) fun r1286 => (pt_ite rfl (fun _ => (pt_retV rfl hq)) (fun _ => (pt_ck (pt_in hq (pt_rf dl2) rfl) fun hi1287 => (pt_letk rfl (pt_sIa hq (pt_rf dl2) rfl rfl) fun m1288 n1289 em1290 hq1291 => (pt_leti rfl fun x1292 => (hk24 _ _ (pt_rf dl0) _ _ rfl _ _ (pt_rf dl2) _ _ rfl _ _ rfl _ _ hq1291)))))))))))
theorem zX10_piling {p : Nat → Nat} {v0 r0 : ml_M} : ∀ (l0 l0' : Nat) (hl0 : pt_r p l0 l0') (l1 l1' : Int32) (hl1 : l1 = l1') (m n : ml_M) (hq : pt_Q p v0 r0 m n), pt_T (pt_WV p v0 r0) (fX10_piling l0 l1 m) (fX10_piling l0' l1' n) := by
  intro l0 l0' hl0 l1 l1' hl1 m n hq
  obtain ⟨rfl, dl0⟩ := hl0
  subst hl1
  unfold fX10_piling
  exact (pt_b1 (zX10_isRow _ _ rfl _ _ hq) fun r1293 => (pt_ite rfl (fun _ => (pt_retV rfl hq)) (fun _ => (pt_ck (pt_kc hq (pt_rf dl0)) fun hc1294 => (pt_letr (pt_R hq (pt_rf dl0) hc1294) fun a1295 d_a1295 => (pt_ck (pt_kc hq (pt_rf d_a1295)) fun hc1296 => (pt_ck (pt_lenc (pt_I hq (pt_rf d_a1295) hc1296)) fun _ => (pt_al hq (pt_e1 (fun (a : Int32) => a.toNatClampNeg) (pt_I hq (pt_rf d_a1295) hc1296)) (pt_e1 (fun (a : Int32) => a.toNatClampNeg) (pt_I hq (pt_rf d_a1295) hc1296)) fun a1297 m1298 n1299 d_a1297 hc1300 hq1301 => (zX10_piling_24  ml_fu _ _ (pt_rf dl0) _ _ rfl _ _ (pt_rf d_a1297) _ _ rfl _ _ rfl _ _ hq1301)))))))))
theorem zX10_strange_83 {p : Nat → Nat} {v0 r0 : ml_M} {k7 k7' : Nat → Int32 → Int32 → Int32 → ml_M → Option (Int32 × ml_M)} (hk7 : ∀ (l0 l0' : Nat) (hl0 : pt_r p l0 l0') (l1 l1' : Int32) (hl1 : l1 = l1') (l2 l2' : Int32) (hl2 : l2 = l2') (l3 l3' : Int32) (hl3 : l3 = l3') (m n : ml_M) (hq : pt_Q p v0 r0 m n), pt_T (pt_WV p v0 r0) (k7 l0 l1 l2 l3 m) (k7' l0' l1' l2' l3' n)) : ∀ (l0 l0' : Nat) (hl0 : pt_r p l0 l0') (l1 l1' : Int32) (hl1 : l1 = l1') (l2 l2' : Int32) (hl2 : l2 = l2') (l3 l3' : Int32) (hl3 : l3 = l3') (m n : ml_M) (hq : pt_Q p v0 r0 m n), pt_T (pt_WV p v0 r0) (fX10_strange_83 k7 l0 l1 l2 l3 m) (fX10_strange_83 k7' l0' l1' l2' l3' n) := by
  intro l0 l0' hl0 l1 l1' hl1 l2 l2' hl2 l3 l3' hl3 m n hq
  obtain ⟨rfl, dl0⟩ := hl0
  subst hl1
  subst hl2
  subst hl3
  unfold fX10_strange_83
  exact (hk7 _ _ (pt_rf dl0) _ _ rfl _ _ rfl _ _ rfl _ _ hq)
theorem zX10_strange_80 {p : Nat → Nat} {v0 r0 : ml_M} {k7 k7' : Nat → Int32 → Int32 → Int32 → ml_M → Option (Int32 × ml_M)} (hk7 : ∀ (l0 l0' : Nat) (hl0 : pt_r p l0 l0') (l1 l1' : Int32) (hl1 : l1 = l1') (l2 l2' : Int32) (hl2 : l2 = l2') (l3 l3' : Int32) (hl3 : l3 = l3') (m n : ml_M) (hq : pt_Q p v0 r0 m n), pt_T (pt_WV p v0 r0) (k7 l0 l1 l2 l3 m) (k7' l0' l1' l2' l3' n)) : ∀ (l0 l0' : Nat) (hl0 : pt_r p l0 l0') (l1 l1' : Int32) (hl1 : l1 = l1') (l2 l2' : Int32) (hl2 : l2 = l2') (l3 l3' : Int32) (hl3 : l3 = l3') (m n : ml_M) (hq : pt_Q p v0 r0 m n), pt_T (pt_WV p v0 r0) (fX10_strange_80 k7 l0 l1 l2 l3 m) (fX10_strange_80 k7' l0' l1' l2' l3' n) := by
  intro l0 l0' hl0 l1 l1' hl1 l2 l2' hl2 l3 l3' hl3 m n hq
  obtain ⟨rfl, dl0⟩ := hl0
  subst hl1
  subst hl2
  subst hl3
  unfold fX10_strange_80
  exact (zX10_strange_83 hk7  _ _ (pt_rf dl0) _ _ rfl _ _ rfl _ _ rfl _ _ hq)
theorem zX10_strange_89 {p : Nat → Nat} {v0 r0 : ml_M} : ∀ (l0 l0' : Nat) (hl0 : pt_r p l0 l0') (l1 l1' : Int32) (hl1 : l1 = l1') (l2 l2' : Int32) (hl2 : l2 = l2') (m n : ml_M) (hq : pt_Q p v0 r0 m n), pt_T (pt_WV p v0 r0) (fX10_strange_89 l0 l1 l2 m) (fX10_strange_89 l0' l1' l2' n) := by
  intro l0 l0' hl0 l1 l1' hl1 l2 l2' hl2 m n hq
  obtain ⟨rfl, dl0⟩ := hl0
  subst hl1
  subst hl2
  unfold fX10_strange_89
  exact (pt_ck (pt_kc hq (pt_rf dl0)) fun hc1302 => (pt_letk rfl (pt_sI hq (pt_rf dl0) rfl) fun m1303 n1304 em1305 hq1306 => (pt_retV rfl hq1306)))
theorem zX10_strange_7 {p : Nat → Nat} {v0 r0 : ml_M} : ∀ (fu : Nat) (l0 l0' : Nat) (hl0 : pt_r p l0 l0') (l1 l1' : Int32) (hl1 : l1 = l1') (l2 l2' : Int32) (hl2 : l2 = l2') (l3 l3' : Int32) (hl3 : l3 = l3') (m n : ml_M) (hq : pt_Q p v0 r0 m n), pt_T (pt_WV p v0 r0) (fX10_strange_7 fu l0 l1 l2 l3 m) (fX10_strange_7 fu l0' l1' l2' l3' n) := by
  intro fu
  induction fu with
  | zero => intro l0 l0' hl0 l1 l1' hl1 l2 l2' hl2 l3 l3' hl3 m n hq; exact pt_none
  | succ fu ih =>
  intro l0 l0' hl0 l1 l1' hl1 l2 l2' hl2 l3 l3' hl3 m n hq
  obtain ⟨rfl, dl0⟩ := hl0
  subst hl1
  subst hl2
  subst hl3
  have hk7 := ih
  unfold fX10_strange_7
  exact (pt_ck (pt_kc hq (pt_rf dl0)) fun hc1307 => (pt_ite (pt_e2 (fun (a b : Int32) => b ≤ a) rfl (pt_I hq (pt_rf dl0) hc1307)) (fun _ => (zX10_strange_89   _ _ (pt_rf dl0) _ _ rfl _ _ rfl _ _ hq)) (fun _ => (pt_letr (pt_R hq (pt_rf dl0) hc1307) fun a1308 d_a1308 => (pt_ck (pt_in hq (pt_rf d_a1308) rfl) fun hi1309 => pt_letr (pt_Ra hq (pt_rf d_a1308) hi1309.1 rfl) fun a1310 d_a1310 => (pt_ck (pt_kc hq (pt_rf d_a1310)) fun hc1311 => (pt_ite (pt_e2 (fun (a b : Int32) => a = b) (pt_I hq (pt_rf d_a1310) hc1311) rfl) (fun _ => (pt_ite (pt_e2 (fun (a b : Int32) => a = b) (pt_I hq (pt_rf d_a1310) hc1311) rfl) (fun _ => (zX10_strange_83 hk7  _ _ (pt_rf dl0) _ _ rfl _ _ rfl _ _ rfl _ _ hq)) (fun _ => (pt_b1 (zX10_opened _ _ (pt_rf dl0) _ _ (pt_rf d_a1310) _ _ hq) fun r1312 => (pt_ite rfl (fun _ => (zX10_strange_83 hk7  _ _ (pt_rf dl0) _ _ rfl _ _ rfl _ _ rfl _ _ hq)) (fun _ => (pt_b1 (zX10_has _ _ rfl _ _ (pt_I hq (pt_rf d_a1310) hc1311) _ _ hq) fun r1313 => (pt_ite rfl (fun _ => (pt_ite rfl (fun _ => (zX10_strange_80 hk7  _ _ (pt_rf dl0) _ _ rfl _ _ rfl _ _ rfl _ _ hq)) (fun _ => (zX10_strange_80 hk7  _ _ (pt_rf dl0) _ _ rfl _ _ rfl _ _ rfl _ _ hq)))) (fun _ => (zX10_strange_83 hk7  _ _ (pt_rf dl0) _ _ rfl _ _ rfl _ _ rfl _ _ hq)))))))))) (fun _ => (zX10_strange_83 hk7  _ _ (pt_rf dl0) _ _ rfl _ _ rfl _ _ rfl _ _ hq)))))))))
theorem zX10_strange {p : Nat → Nat} {v0 r0 : ml_M} : ∀ (l0 l0' : Nat) (hl0 : pt_r p l0 l0') (m n : ml_M) (hq : pt_Q p v0 r0 m n), pt_T (pt_WV p v0 r0) (fX10_strange l0 m) (fX10_strange l0' n) := by
  intro l0 l0' hl0 m n hq
  obtain ⟨rfl, dl0⟩ := hl0
  unfold fX10_strange
  exact (zX10_strange_7  ml_fu _ _ (pt_rf dl0) _ _ rfl _ _ rfl _ _ rfl _ _ hq)
theorem zX3_gather_56 {p : Nat → Nat} {v0 r0 : ml_M} {k6 k6' : Nat → Nat → Int32 → Int32 → Int32 → Int32 → ml_M → Option (Int32 × ml_M)} (hk6 : ∀ (l0 l0' : Nat) (hl0 : pt_r p l0 l0') (l1 l1' : Nat) (hl1 : pt_r p l1 l1') (l2 l2' : Int32) (hl2 : l2 = l2') (l3 l3' : Int32) (hl3 : l3 = l3') (l4 l4' : Int32) (hl4 : l4 = l4') (l5 l5' : Int32) (hl5 : l5 = l5') (m n : ml_M) (hq : pt_Q p v0 r0 m n), pt_T (pt_WV p v0 r0) (k6 l0 l1 l2 l3 l4 l5 m) (k6' l0' l1' l2' l3' l4' l5' n)) : ∀ (l0 l0' : Nat) (hl0 : pt_r p l0 l0') (l1 l1' : Nat) (hl1 : pt_r p l1 l1') (l2 l2' : Int32) (hl2 : l2 = l2') (l3 l3' : Int32) (hl3 : l3 = l3') (l4 l4' : Int32) (hl4 : l4 = l4') (l5 l5' : Int32) (hl5 : l5 = l5') (m n : ml_M) (hq : pt_Q p v0 r0 m n), pt_T (pt_WV p v0 r0) (fX3_gather_56 k6 l0 l1 l2 l3 l4 l5 m) (fX3_gather_56 k6' l0' l1' l2' l3' l4' l5' n) := by
  intro l0 l0' hl0 l1 l1' hl1 l2 l2' hl2 l3 l3' hl3 l4 l4' hl4 l5 l5' hl5 m n hq
  obtain ⟨rfl, dl0⟩ := hl0
  obtain ⟨rfl, dl1⟩ := hl1
  subst hl2
  subst hl3
  subst hl4
  subst hl5
  unfold fX3_gather_56
  exact (hk6 _ _ (pt_rf dl0) _ _ (pt_rf dl1) _ _ rfl _ _ rfl _ _ rfl _ _ rfl _ _ hq)
theorem zX3_gather_53 {p : Nat → Nat} {v0 r0 : ml_M} {k6 k6' : Nat → Nat → Int32 → Int32 → Int32 → Int32 → ml_M → Option (Int32 × ml_M)} (hk6 : ∀ (l0 l0' : Nat) (hl0 : pt_r p l0 l0') (l1 l1' : Nat) (hl1 : pt_r p l1 l1') (l2 l2' : Int32) (hl2 : l2 = l2') (l3 l3' : Int32) (hl3 : l3 = l3') (l4 l4' : Int32) (hl4 : l4 = l4') (l5 l5' : Int32) (hl5 : l5 = l5') (m n : ml_M) (hq : pt_Q p v0 r0 m n), pt_T (pt_WV p v0 r0) (k6 l0 l1 l2 l3 l4 l5 m) (k6' l0' l1' l2' l3' l4' l5' n)) : ∀ (l0 l0' : Nat) (hl0 : pt_r p l0 l0') (l1 l1' : Nat) (hl1 : pt_r p l1 l1') (l2 l2' : Int32) (hl2 : l2 = l2') (l3 l3' : Int32) (hl3 : l3 = l3') (l4 l4' : Int32) (hl4 : l4 = l4') (l5 l5' : Int32) (hl5 : l5 = l5') (m n : ml_M) (hq : pt_Q p v0 r0 m n), pt_T (pt_WV p v0 r0) (fX3_gather_53 k6 l0 l1 l2 l3 l4 l5 m) (fX3_gather_53 k6' l0' l1' l2' l3' l4' l5' n) := by
  intro l0 l0' hl0 l1 l1' hl1 l2 l2' hl2 l3 l3' hl3 l4 l4' hl4 l5 l5' hl5 m n hq
  obtain ⟨rfl, dl0⟩ := hl0
  obtain ⟨rfl, dl1⟩ := hl1
  subst hl2
  subst hl3
  subst hl4
  subst hl5
  unfold fX3_gather_53
  exact (zX3_gather_56 hk6  _ _ (pt_rf dl0) _ _ (pt_rf dl1) _ _ rfl _ _ rfl _ _ rfl _ _ rfl _ _ hq)
theorem zX3_gather_62 {p : Nat → Nat} {v0 r0 : ml_M} : ∀ (l0 l0' : Nat) (hl0 : pt_r p l0 l0') (l4 l4' : Int32) (hl4 : l4 = l4') (m n : ml_M) (hq : pt_Q p v0 r0 m n), pt_T (pt_WV p v0 r0) (fX3_gather_62 l0 l4 m) (fX3_gather_62 l0' l4' n) := by
  intro l0 l0' hl0 l4 l4' hl4 m n hq
  obtain ⟨rfl, dl0⟩ := hl0
  subst hl4
  unfold fX3_gather_62
  exact (pt_ck (pt_kc hq (pt_rf dl0)) fun hc1314 => (pt_letk rfl (pt_sI hq (pt_rf dl0) rfl) fun m1315 n1316 em1317 hq1318 => (pt_retV rfl hq1318)))
theorem zX3_gather_6 {p : Nat → Nat} {v0 r0 : ml_M} : ∀ (fu : Nat) (l0 l0' : Nat) (hl0 : pt_r p l0 l0') (l1 l1' : Nat) (hl1 : pt_r p l1 l1') (l2 l2' : Int32) (hl2 : l2 = l2') (l3 l3' : Int32) (hl3 : l3 = l3') (l4 l4' : Int32) (hl4 : l4 = l4') (l5 l5' : Int32) (hl5 : l5 = l5') (m n : ml_M) (hq : pt_Q p v0 r0 m n), pt_T (pt_WV p v0 r0) (fX3_gather_6 fu l0 l1 l2 l3 l4 l5 m) (fX3_gather_6 fu l0' l1' l2' l3' l4' l5' n) := by
  intro fu
  induction fu with
  | zero => intro l0 l0' hl0 l1 l1' hl1 l2 l2' hl2 l3 l3' hl3 l4 l4' hl4 l5 l5' hl5 m n hq; exact pt_none
  | succ fu ih =>
  intro l0 l0' hl0 l1 l1' hl1 l2 l2' hl2 l3 l3' hl3 l4 l4' hl4 l5 l5' hl5 m n hq
  obtain ⟨rfl, dl0⟩ := hl0
  obtain ⟨rfl, dl1⟩ := hl1
  subst hl2
  subst hl3
  subst hl4
  subst hl5
  have hk6 := ih
  unfold fX3_gather_6
  exact (pt_ite rfl (fun _ => (zX3_gather_62   _ _ (pt_rf dl0) _ _ rfl _ _ hq)) (fun _ => (pt_b1 (zX10_has _ _ rfl _ _ rfl _ _ hq) fun r1319 => (pt_ite rfl (fun _ => (zX3_gather_56 hk6  _ _ (pt_rf dl0) _ _ (pt_rf dl1) _ _ rfl _ _ rfl _ _ rfl _ _ rfl _ _ hq)) (fun _ => (pt_ck (pt_in hq (pt_rf dl1) rfl) fun hi1320 => pt_letr (pt_Ra hq (pt_rf dl1) hi1320.1 rfl) fun a1321 d_a1321 => (pt_ck (pt_kc hq (pt_rf d_a1321)) fun hc1322 => (pt_ite (pt_e2 (fun (a b : Int32) => a = b) (pt_I hq (pt_rf d_a1321) hc1322) rfl) (fun _ => (pt_ite rfl (fun _ => (zX3_gather_53 hk6  _ _ (pt_rf dl0) _ _ (pt_rf dl1) _ _ rfl _ _ rfl _ _ rfl _ _ rfl _ _ hq)) (fun _ => (pt_ck (pt_kc hq (pt_rf dl0)) fun hc1323 => (pt_letr (pt_R hq (pt_rf dl0) hc1323) fun a1324 d_a1324 => (pt_ck (pt_in hq (pt_rf dl1) rfl) fun hi1325 => pt_letr (pt_Ra hq (pt_rf dl1) hi1325.1 rfl) fun a1326 d_a1326 => (pt_ck (pt_kc hq (pt_rf d_a1326)) fun hc1328 => (pt_ck (pt_in hq (pt_rf d_a1324) rfl) fun hi1327 => (pt_letk rfl (pt_sRa hq (pt_rf d_a1324) rfl (pt_rf d_a1326)) fun m1329 n1330 em1331 hq1332 => (zX3_gather_53 hk6  _ _ (pt_rf dl0) _ _ (pt_rf dl1) _ _ rfl _ _ rfl _ _ rfl _ _ rfl _ _ hq1332)))))))))) (fun _ => (zX3_gather_56 hk6  _ _ (pt_rf dl0) _ _ (pt_rf dl1) _ _ rfl _ _ rfl _ _ rfl _ _ rfl _ _ hq))))))))))
theorem zX3_gather {p : Nat → Nat} {v0 r0 : ml_M} : ∀ (l0 l0' : Nat) (hl0 : pt_r p l0 l0') (l1 l1' : Nat) (hl1 : pt_r p l1 l1') (l2 l2' : Int32) (hl2 : l2 = l2') (l3 l3' : Int32) (hl3 : l3 = l3') (m n : ml_M) (hq : pt_Q p v0 r0 m n), pt_T (pt_WV p v0 r0) (fX3_gather l0 l1 l2 l3 m) (fX3_gather l0' l1' l2' l3' n) := by
  intro l0 l0' hl0 l1 l1' hl1 l2 l2' hl2 l3 l3' hl3 m n hq
  obtain ⟨rfl, dl0⟩ := hl0
  obtain ⟨rfl, dl1⟩ := hl1
  subst hl2
  subst hl3
  unfold fX3_gather
  exact (zX3_gather_6  ml_fu _ _ (pt_rf dl0) _ _ (pt_rf dl1) _ _ rfl _ _ rfl _ _ rfl _ _ rfl _ _ hq)
theorem zX3_findAhead_66 {p : Nat → Nat} {v0 r0 : ml_M} {k2 k2' : Nat → Int32 → ml_M → Option ml_M} (hk2 : ∀ (l0 l0' : Nat) (hl0 : pt_r p l0 l0') (l1 l1' : Int32) (hl1 : l1 = l1') (m n : ml_M) (hq : pt_Q p v0 r0 m n), pt_T (pt_WM p v0 r0) (k2 l0 l1 m) (k2' l0' l1' n)) {k19 k19' : Nat → Int32 → Int32 → ml_M → Option ml_M} (hk19 : ∀ (l0 l0' : Nat) (hl0 : pt_r p l0 l0') (l1 l1' : Int32) (hl1 : l1 = l1') (l2 l2' : Int32) (hl2 : l2 = l2') (m n : ml_M) (hq : pt_Q p v0 r0 m n), pt_T (pt_WM p v0 r0) (k19 l0 l1 l2 m) (k19' l0' l1' l2' n)) : ∀ (l0 l0' : Nat) (hl0 : pt_r p l0 l0') (l1 l1' : Int32) (hl1 : l1 = l1') (l2 l2' : Int32) (hl2 : l2 = l2') (m n : ml_M) (hq : pt_Q p v0 r0 m n), pt_T (pt_WM p v0 r0) (fX3_findAhead_66 k2 k19 l0 l1 l2 m) (fX3_findAhead_66 k2' k19' l0' l1' l2' n) := by
  intro l0 l0' hl0 l1 l1' hl1 l2 l2' hl2 m n hq
  obtain ⟨rfl, dl0⟩ := hl0
  subst hl1
  subst hl2
  unfold fX3_findAhead_66
  exact (hk19 _ _ (pt_rf dl0) _ _ rfl _ _ rfl _ _ hq)
theorem zX3_findAhead_72 {p : Nat → Nat} {v0 r0 : ml_M} {k2 k2' : Nat → Int32 → ml_M → Option ml_M} (hk2 : ∀ (l0 l0' : Nat) (hl0 : pt_r p l0 l0') (l1 l1' : Int32) (hl1 : l1 = l1') (m n : ml_M) (hq : pt_Q p v0 r0 m n), pt_T (pt_WM p v0 r0) (k2 l0 l1 m) (k2' l0' l1' n)) : ∀ (l0 l0' : Nat) (hl0 : pt_r p l0 l0') (l1 l1' : Int32) (hl1 : l1 = l1') (m n : ml_M) (hq : pt_Q p v0 r0 m n), pt_T (pt_WM p v0 r0) (fX3_findAhead_72 k2 l0 l1 m) (fX3_findAhead_72 k2' l0' l1' n) := by
  intro l0 l0' hl0 l1 l1' hl1 m n hq
  obtain ⟨rfl, dl0⟩ := hl0
  subst hl1
  unfold fX3_findAhead_72
  exact (hk2 _ _ (pt_rf dl0) _ _ rfl _ _ hq)
theorem zX3_findAhead_19 {p : Nat → Nat} {v0 r0 : ml_M} {k2 k2' : Nat → Int32 → ml_M → Option ml_M} (hk2 : ∀ (l0 l0' : Nat) (hl0 : pt_r p l0 l0') (l1 l1' : Int32) (hl1 : l1 = l1') (m n : ml_M) (hq : pt_Q p v0 r0 m n), pt_T (pt_WM p v0 r0) (k2 l0 l1 m) (k2' l0' l1' n)) : ∀ (fu : Nat) (l0 l0' : Nat) (hl0 : pt_r p l0 l0') (l1 l1' : Int32) (hl1 : l1 = l1') (l2 l2' : Int32) (hl2 : l2 = l2') (m n : ml_M) (hq : pt_Q p v0 r0 m n), pt_T (pt_WM p v0 r0) (fX3_findAhead_19 k2 fu l0 l1 l2 m) (fX3_findAhead_19 k2' fu l0' l1' l2' n) := by
  intro fu
  induction fu with
  | zero => intro l0 l0' hl0 l1 l1' hl1 l2 l2' hl2 m n hq; exact pt_none
  | succ fu ih =>
  intro l0 l0' hl0 l1 l1' hl1 l2 l2' hl2 m n hq
  obtain ⟨rfl, dl0⟩ := hl0
  subst hl1
  subst hl2
  have hk19 := ih
  unfold fX3_findAhead_19
  exact (pt_ck (pt_kc hq (pt_rf dl0)) fun hc1333 => (pt_ite (pt_e2 (fun (a b : Int32) => b ≤ a) rfl (pt_I hq (pt_rf dl0) hc1333)) (fun _ => (zX3_findAhead_72 hk2  _ _ (pt_rf dl0) _ _ rfl _ _ hq)) (fun _ => (pt_letr (pt_R hq (pt_rf dl0) hc1333) fun a1334 d_a1334 => (pt_ck (pt_in hq (pt_rf d_a1334) rfl) fun hi1335 => pt_letr (pt_Ra hq (pt_rf d_a1334) hi1335.1 rfl) fun a1336 d_a1336 => (pt_ck (pt_kc hq (pt_rf d_a1336)) fun hc1337 => (pt_letr (pt_R hq (pt_rf dl0) hc1333) fun a1338 d_a1338 => (pt_ck (pt_in hq (pt_rf d_a1338) rfl) fun hi1339 => pt_letr (pt_Ra hq (pt_rf d_a1338) hi1339.1 rfl) fun a1340 d_a1340 => (pt_ck (pt_kc hq (pt_rf d_a1340)) fun hc1341 => (pt_ite (pt_e2 (fun (a b : Int32) => a = b) (pt_e2 (fun (a b : Int32) => a - a / b * b) (pt_I hq (pt_rf d_a1336) hc1337) rfl) (pt_e2 (fun (a b : Int32) => a / b) (pt_I hq (pt_rf d_a1340) hc1341) rfl)) (fun _ => (pt_letr (pt_R hq (pt_rf dl0) hc1333) fun a1342 d_a1342 => (pt_ck (pt_in hq (pt_rf d_a1342) rfl) fun hi1343 => (pt_ck (pt_in hq (pt_rf d_a1342) rfl) fun hi1344 => (pt_letk rfl (pt_sIa hq (pt_rf d_a1342) rfl (pt_e2 (fun (a b : Int32) => a ||| b) (pt_Ia hq (pt_rf d_a1342) hi1343.1 rfl) rfl)) fun m1345 n1346 em1347 hq1348 => (zX3_findAhead_66 hk2 hk19  _ _ (pt_rf dl0) _ _ rfl _ _ rfl _ _ hq1348)))))) (fun _ => (zX3_findAhead_66 hk2 hk19  _ _ (pt_rf dl0) _ _ rfl _ _ rfl _ _ hq))))))))))))
theorem zX3_findAhead_2 {p : Nat → Nat} {v0 r0 : ml_M} : ∀ (fu : Nat) (l0 l0' : Nat) (hl0 : pt_r p l0 l0') (l1 l1' : Int32) (hl1 : l1 = l1') (m n : ml_M) (hq : pt_Q p v0 r0 m n), pt_T (pt_WM p v0 r0) (fX3_findAhead_2 fu l0 l1 m) (fX3_findAhead_2 fu l0' l1' n) := by
  intro fu
  induction fu with
  | zero => intro l0 l0' hl0 l1 l1' hl1 m n hq; exact pt_none
  | succ fu ih =>
  intro l0 l0' hl0 l1 l1' hl1 m n hq
  obtain ⟨rfl, dl0⟩ := hl0
  subst hl1
  have hk2 := ih
  unfold fX3_findAhead_2
  exact (pt_ck (pt_kc hq (pt_rf dl0)) fun hc1349 => (pt_ite (pt_e2 (fun (a b : Int32) => b ≤ a) rfl (pt_I hq (pt_rf dl0) hc1349)) (fun _ => (pt_retM hq)) (fun _ => (pt_letr (pt_R hq (pt_rf dl0) hc1349) fun a1350 d_a1350 => (pt_ck (pt_in hq (pt_rf d_a1350) rfl) fun hi1351 => (pt_letk rfl (pt_sIa hq (pt_rf d_a1350) rfl rfl) fun m1352 n1353 em1354 hq1355 => (zX3_findAhead_19 hk2 ml_fu _ _ (pt_rf dl0) _ _ rfl _ _ rfl _ _ hq1355)))))))
theorem zX3_findAhead {p : Nat → Nat} {v0 r0 : ml_M} : ∀ (l0 l0' : Nat) (hl0 : pt_r p l0 l0') (m n : ml_M) (hq : pt_Q p v0 r0 m n), pt_T (pt_WM p v0 r0) (fX3_findAhead l0 m) (fX3_findAhead l0' n) := by
  intro l0 l0' hl0 m n hq
  obtain ⟨rfl, dl0⟩ := hl0
  unfold fX3_findAhead
  exact (zX3_findAhead_2  ml_fu _ _ (pt_rf dl0) _ _ rfl _ _ hq)
theorem zX3_canEnd {p : Nat → Nat} {v0 r0 : ml_M} : ∀ (l0 l0' : Nat) (hl0 : pt_r p l0 l0') (l1 l1' : Int32) (hl1 : l1 = l1') (l2 l2' : Int32) (hl2 : l2 = l2') (m n : ml_M) (hq : pt_Q p v0 r0 m n), pt_T pt_Wv (fX3_canEnd l0 l1 l2 m) (fX3_canEnd l0' l1' l2' n) := by
  intro l0 l0' hl0 l1 l1' hl1 l2 l2' hl2 m n hq
  obtain ⟨rfl, dl0⟩ := hl0
  subst hl1
  subst hl2
  unfold fX3_canEnd
  exact (pt_ite rfl (fun _ => (pt_rtv rfl)) (fun _ => (pt_ck (pt_kc hq (pt_rf dl0)) fun hc1356 => (pt_letr (pt_R hq (pt_rf dl0) hc1356) fun a1357 d_a1357 => (pt_ck (pt_in hq (pt_rf d_a1357) rfl) fun hi1358 => (pt_letr (pt_R hq (pt_rf dl0) hc1356) fun a1359 d_a1359 => (pt_ck (pt_in hq (pt_rf d_a1359) rfl) fun hi1360 => pt_letr (pt_Ra hq (pt_rf d_a1359) hi1360.1 rfl) fun a1361 d_a1361 => (pt_ck (pt_kc hq (pt_rf d_a1361)) fun hc1362 => (pt_ite (pt_e2 (fun (a b : Int32) => b < a) (pt_Ia hq (pt_rf d_a1357) hi1358.1 rfl) (pt_I hq (pt_rf d_a1361) hc1362)) (fun _ => (pt_rtv rfl)) (fun _ => (pt_letr (pt_R hq (pt_rf dl0) hc1356) fun a1363 d_a1363 => (pt_ck (pt_in hq (pt_rf d_a1363) rfl) fun hi1364 => (pt_letr (pt_R hq (pt_rf dl0) hc1356) fun a1365 d_a1365 => (pt_ck (pt_in hq (pt_rf d_a1365) rfl) fun hi1366 => (pt_ite (pt_e1 (fun (a : Int32) => a = 0) (pt_e2 (fun (a b : Int32) => a &&& b) (pt_Ia hq (pt_rf d_a1363) hi1364.1 rfl) (pt_Ia hq (pt_rf d_a1365) hi1366.1 rfl))) (fun _ => (pt_rtv rfl)) (fun _ => (pt_rtv rfl)))))))))))))))))
theorem zX3_findLasts_102 {p : Nat → Nat} {v0 r0 : ml_M} {k6 k6' : Nat → Int32 → ml_M → Option ml_M} (hk6 : ∀ (l0 l0' : Nat) (hl0 : pt_r p l0 l0') (l1 l1' : Int32) (hl1 : l1 = l1') (m n : ml_M) (hq : pt_Q p v0 r0 m n), pt_T (pt_WM p v0 r0) (k6 l0 l1 m) (k6' l0' l1' n)) {k32 k32' : Nat → Int32 → Int32 → ml_M → Option ml_M} (hk32 : ∀ (l0 l0' : Nat) (hl0 : pt_r p l0 l0') (l1 l1' : Int32) (hl1 : l1 = l1') (l2 l2' : Int32) (hl2 : l2 = l2') (m n : ml_M) (hq : pt_Q p v0 r0 m n), pt_T (pt_WM p v0 r0) (k32 l0 l1 l2 m) (k32' l0' l1' l2' n)) : ∀ (l0 l0' : Nat) (hl0 : pt_r p l0 l0') (l1 l1' : Int32) (hl1 : l1 = l1') (l2 l2' : Int32) (hl2 : l2 = l2') (m n : ml_M) (hq : pt_Q p v0 r0 m n), pt_T (pt_WM p v0 r0) (fX3_findLasts_102 k6 k32 l0 l1 l2 m) (fX3_findLasts_102 k6' k32' l0' l1' l2' n) := by
  intro l0 l0' hl0 l1 l1' hl1 l2 l2' hl2 m n hq
  obtain ⟨rfl, dl0⟩ := hl0
  subst hl1
  subst hl2
  unfold fX3_findLasts_102
  exact (hk32 _ _ (pt_rf dl0) _ _ rfl _ _ rfl _ _ hq)
theorem zX3_findLasts_108 {p : Nat → Nat} {v0 r0 : ml_M} {k6 k6' : Nat → Int32 → ml_M → Option ml_M} (hk6 : ∀ (l0 l0' : Nat) (hl0 : pt_r p l0 l0') (l1 l1' : Int32) (hl1 : l1 = l1') (m n : ml_M) (hq : pt_Q p v0 r0 m n), pt_T (pt_WM p v0 r0) (k6 l0 l1 m) (k6' l0' l1' n)) : ∀ (l0 l0' : Nat) (hl0 : pt_r p l0 l0') (l1 l1' : Int32) (hl1 : l1 = l1') (m n : ml_M) (hq : pt_Q p v0 r0 m n), pt_T (pt_WM p v0 r0) (fX3_findLasts_108 k6 l0 l1 m) (fX3_findLasts_108 k6' l0' l1' n) := by
  intro l0 l0' hl0 l1 l1' hl1 m n hq
  obtain ⟨rfl, dl0⟩ := hl0
  subst hl1
  unfold fX3_findLasts_108
  exact (hk6 _ _ (pt_rf dl0) _ _ rfl _ _ hq)
theorem zX3_findLasts_32 {p : Nat → Nat} {v0 r0 : ml_M} {k6 k6' : Nat → Int32 → ml_M → Option ml_M} (hk6 : ∀ (l0 l0' : Nat) (hl0 : pt_r p l0 l0') (l1 l1' : Int32) (hl1 : l1 = l1') (m n : ml_M) (hq : pt_Q p v0 r0 m n), pt_T (pt_WM p v0 r0) (k6 l0 l1 m) (k6' l0' l1' n)) : ∀ (fu : Nat) (l0 l0' : Nat) (hl0 : pt_r p l0 l0') (l1 l1' : Int32) (hl1 : l1 = l1') (l2 l2' : Int32) (hl2 : l2 = l2') (m n : ml_M) (hq : pt_Q p v0 r0 m n), pt_T (pt_WM p v0 r0) (fX3_findLasts_32 k6 fu l0 l1 l2 m) (fX3_findLasts_32 k6' fu l0' l1' l2' n) := by
  intro fu
  induction fu with
  | zero => intro l0 l0' hl0 l1 l1' hl1 l2 l2' hl2 m n hq; exact pt_none
  | succ fu ih =>
  intro l0 l0' hl0 l1 l1' hl1 l2 l2' hl2 m n hq
  obtain ⟨rfl, dl0⟩ := hl0
  subst hl1
  subst hl2
  have hk32 := ih
  unfold fX3_findLasts_32
  exact (pt_ck (pt_kc hq (pt_rf dl0)) fun hc1367 => (pt_ite (pt_e2 (fun (a b : Int32) => b ≤ a) rfl (pt_I hq (pt_rf dl0) hc1367)) (fun _ => (zX3_findLasts_108 hk6  _ _ (pt_rf dl0) _ _ rfl _ _ hq)) (fun _ => (pt_b1 (zX10_has _ _ rfl _ _ rfl _ _ hq) fun r1368 => (pt_ite rfl (fun _ => (zX3_findLasts_102 hk6 hk32  _ _ (pt_rf dl0) _ _ rfl _ _ rfl _ _ hq)) (fun _ => (pt_letr (pt_R hq (pt_rf dl0) hc1367) fun a1369 d_a1369 => (pt_letr (pt_R hq (pt_rf dl0) hc1367) fun a1370 d_a1370 => (pt_ck (pt_in hq (pt_rf d_a1370) rfl) fun hi1371 => (pt_letr (pt_R hq (pt_rf dl0) hc1367) fun a1372 d_a1372 => (pt_ck (pt_in hq (pt_rf d_a1372) rfl) fun hi1373 => pt_letr (pt_Ra hq (pt_rf d_a1372) hi1373.1 rfl) fun a1374 d_a1374 => (pt_ck (pt_kc hq (pt_rf d_a1374)) fun hc1375 => (pt_ck (pt_in hq (pt_rf d_a1369) rfl) fun hi1376 => (pt_letk rfl (pt_sIa hq (pt_rf d_a1369) rfl (pt_e2 (fun (a b : Int32) => if a < b then b else a) (pt_Ia hq (pt_rf d_a1370) hi1371.1 rfl) (pt_I hq (pt_rf d_a1374) hc1375))) fun m1377 n1378 em1379 hq1380 => (pt_b1 (zX3_canEnd _ _ (pt_rf dl0) _ _ rfl _ _ rfl _ _ hq1380) fun r1381 => (pt_ite rfl (fun _ => (zX3_findLasts_102 hk6 hk32  _ _ (pt_rf dl0) _ _ rfl _ _ rfl _ _ hq1380)) (fun _ => (pt_letr (pt_R hq1380 (pt_rf dl0) (ml_kk em1379 hc1367)) fun a1382 d_a1382 => (pt_ck (pt_in hq1380 (pt_rf d_a1382) rfl) fun hi1383 => (pt_ck (pt_in hq1380 (pt_rf d_a1382) rfl) fun hi1384 => (pt_letk rfl (pt_sIa hq1380 (pt_rf d_a1382) rfl (pt_e2 (fun (a b : Int32) => a ||| b) (pt_Ia hq1380 (pt_rf d_a1382) hi1383.1 rfl) rfl)) fun m1385 n1386 em1387 hq1388 => (zX3_findLasts_102 hk6 hk32  _ _ (pt_rf dl0) _ _ rfl _ _ rfl _ _ hq1388))))))))))))))))))))))
theorem zX3_findLasts_6 {p : Nat → Nat} {v0 r0 : ml_M} : ∀ (fu : Nat) (l0 l0' : Nat) (hl0 : pt_r p l0 l0') (l1 l1' : Int32) (hl1 : l1 = l1') (m n : ml_M) (hq : pt_Q p v0 r0 m n), pt_T (pt_WM p v0 r0) (fX3_findLasts_6 fu l0 l1 m) (fX3_findLasts_6 fu l0' l1' n) := by
  intro fu
  induction fu with
  | zero => intro l0 l0' hl0 l1 l1' hl1 m n hq; exact pt_none
  | succ fu ih =>
  intro l0 l0' hl0 l1 l1' hl1 m n hq
  obtain ⟨rfl, dl0⟩ := hl0
  subst hl1
  have hk6 := ih
  unfold fX3_findLasts_6
  exact (pt_ck (pt_kc hq (pt_rf dl0)) fun hc1389 => (pt_ite (pt_e2 (fun (a b : Int32) => b ≤ a) rfl (pt_e2 (fun (a b : Int32) => a <<< (b &&& 31)) rfl (pt_I hq (pt_rf dl0) hc1389))) (fun _ => (pt_retM hq)) (fun _ => (pt_letr (pt_R hq (pt_rf dl0) hc1389) fun a1390 d_a1390 => (pt_ck (pt_in hq (pt_rf d_a1390) rfl) fun hi1391 => (pt_letk rfl (pt_sIa hq (pt_rf d_a1390) rfl rfl) fun m1392 n1393 em1394 hq1395 => (pt_letr (pt_R hq1395 (pt_rf dl0) (ml_kk em1394 hc1389)) fun a1396 d_a1396 => (pt_ck (pt_in hq1395 (pt_rf d_a1396) rfl) fun hi1397 => (pt_letk rfl (pt_sIa hq1395 (pt_rf d_a1396) rfl rfl) fun m1398 n1399 em1400 hq1401 => (zX3_findLasts_32 hk6 ml_fu _ _ (pt_rf dl0) _ _ rfl _ _ rfl _ _ hq1401))))))))))
theorem zX3_findLasts {p : Nat → Nat} {v0 r0 : ml_M} : ∀ (l0 l0' : Nat) (hl0 : pt_r p l0 l0') (m n : ml_M) (hq : pt_Q p v0 r0 m n), pt_T (pt_WM p v0 r0) (fX3_findLasts l0 m) (fX3_findLasts l0' n) := by
  intro l0 l0' hl0 m n hq
  obtain ⟨rfl, dl0⟩ := hl0
  unfold fX3_findLasts
  exact (pt_ck (pt_kc hq (pt_rf dl0)) fun hc1402 => (pt_b1m (zX3_findAhead _ _ (pt_rf dl0) _ _ hq) fun m1403 n1404 hq1405 => (zX3_findLasts_6  ml_fu _ _ (pt_rf dl0) _ _ rfl _ _ hq1405)))
theorem zX3_fewestPeople_68 {p : Nat → Nat} {v0 r0 : ml_M} {k6 k6' : Nat → Int32 → ml_M → Option (Int32 × ml_M)} (hk6 : ∀ (l0 l0' : Nat) (hl0 : pt_r p l0 l0') (l1 l1' : Int32) (hl1 : l1 = l1') (m n : ml_M) (hq : pt_Q p v0 r0 m n), pt_T (pt_WV p v0 r0) (k6 l0 l1 m) (k6' l0' l1' n)) {k28 k28' : Nat → Int32 → Int32 → ml_M → Option (Int32 × ml_M)} (hk28 : ∀ (l0 l0' : Nat) (hl0 : pt_r p l0 l0') (l1 l1' : Int32) (hl1 : l1 = l1') (l2 l2' : Int32) (hl2 : l2 = l2') (m n : ml_M) (hq : pt_Q p v0 r0 m n), pt_T (pt_WV p v0 r0) (k28 l0 l1 l2 m) (k28' l0' l1' l2' n)) : ∀ (l0 l0' : Nat) (hl0 : pt_r p l0 l0') (l1 l1' : Int32) (hl1 : l1 = l1') (l2 l2' : Int32) (hl2 : l2 = l2') (m n : ml_M) (hq : pt_Q p v0 r0 m n), pt_T (pt_WV p v0 r0) (fX3_fewestPeople_68 k6 k28 l0 l1 l2 m) (fX3_fewestPeople_68 k6' k28' l0' l1' l2' n) := by
  intro l0 l0' hl0 l1 l1' hl1 l2 l2' hl2 m n hq
  obtain ⟨rfl, dl0⟩ := hl0
  subst hl1
  subst hl2
  unfold fX3_fewestPeople_68
  exact (pt_leti rfl fun x1406 => (hk28 _ _ (pt_rf dl0) _ _ rfl _ _ rfl _ _ hq))
theorem zX3_fewestPeople_77 {p : Nat → Nat} {v0 r0 : ml_M} {k6 k6' : Nat → Int32 → ml_M → Option (Int32 × ml_M)} (hk6 : ∀ (l0 l0' : Nat) (hl0 : pt_r p l0 l0') (l1 l1' : Int32) (hl1 : l1 = l1') (m n : ml_M) (hq : pt_Q p v0 r0 m n), pt_T (pt_WV p v0 r0) (k6 l0 l1 m) (k6' l0' l1' n)) : ∀ (l0 l0' : Nat) (hl0 : pt_r p l0 l0') (l1 l1' : Int32) (hl1 : l1 = l1') (m n : ml_M) (hq : pt_Q p v0 r0 m n), pt_T (pt_WV p v0 r0) (fX3_fewestPeople_77 k6 l0 l1 m) (fX3_fewestPeople_77 k6' l0' l1' n) := by
  intro l0 l0' hl0 l1 l1' hl1 m n hq
  obtain ⟨rfl, dl0⟩ := hl0
  subst hl1
  unfold fX3_fewestPeople_77
  exact (hk6 _ _ (pt_rf dl0) _ _ rfl _ _ hq)
theorem zX3_fewestPeople_28 {p : Nat → Nat} {v0 r0 : ml_M} {k6 k6' : Nat → Int32 → ml_M → Option (Int32 × ml_M)} (hk6 : ∀ (l0 l0' : Nat) (hl0 : pt_r p l0 l0') (l1 l1' : Int32) (hl1 : l1 = l1') (m n : ml_M) (hq : pt_Q p v0 r0 m n), pt_T (pt_WV p v0 r0) (k6 l0 l1 m) (k6' l0' l1' n)) : ∀ (fu : Nat) (l0 l0' : Nat) (hl0 : pt_r p l0 l0') (l1 l1' : Int32) (hl1 : l1 = l1') (l2 l2' : Int32) (hl2 : l2 = l2') (m n : ml_M) (hq : pt_Q p v0 r0 m n), pt_T (pt_WV p v0 r0) (fX3_fewestPeople_28 k6 fu l0 l1 l2 m) (fX3_fewestPeople_28 k6' fu l0' l1' l2' n) := by
  intro fu
  induction fu with
  | zero => intro l0 l0' hl0 l1 l1' hl1 l2 l2' hl2 m n hq; exact pt_none
  | succ fu ih =>
  intro l0 l0' hl0 l1 l1' hl1 l2 l2' hl2 m n hq
  obtain ⟨rfl, dl0⟩ := hl0
  subst hl1
  subst hl2
  have hk28 := ih
  unfold fX3_fewestPeople_28
  exact (pt_ite rfl (fun _ => (zX3_fewestPeople_77 hk6  _ _ (pt_rf dl0) _ _ rfl _ _ hq)) (fun _ => (pt_ck (pt_kc hq (pt_rf dl0)) fun hc1407 => (pt_letr (pt_R hq (pt_rf dl0) hc1407) fun a1408 d_a1408 => (pt_ck (pt_in hq (pt_rf d_a1408) rfl) fun hi1409 => (pt_ite (pt_e1 (fun (a : Int32) => a = 0) (pt_Ia hq (pt_rf d_a1408) hi1409.1 rfl)) (fun _ => (zX3_fewestPeople_68 hk6 hk28  _ _ (pt_rf dl0) _ _ rfl _ _ rfl _ _ hq)) (fun _ => (pt_letr (pt_R hq (pt_rf dl0) hc1407) fun a1410 d_a1410 => (pt_letr (pt_R hq (pt_rf dl0) hc1407) fun a1411 d_a1411 => (pt_ck (pt_in hq (pt_rf d_a1411) rfl) fun hi1412 => (pt_letr (pt_R hq (pt_rf dl0) hc1407) fun a1413 d_a1413 => (pt_ck (pt_in hq (pt_rf d_a1413) rfl) fun hi1414 => (pt_ck (pt_in hq (pt_rf d_a1410) rfl) fun hi1415 => (pt_letk rfl (pt_sIa hq (pt_rf d_a1410) rfl (pt_e2 (fun (a b : Int32) => if b < a then b else a) (pt_Ia hq (pt_rf d_a1411) hi1412.1 rfl) (pt_e2 (fun (a b : Int32) => a + b) (pt_Ia hq (pt_rf d_a1413) hi1414.1 rfl) rfl))) fun m1416 n1417 em1418 hq1419 => (zX3_fewestPeople_68 hk6 hk28  _ _ (pt_rf dl0) _ _ rfl _ _ rfl _ _ hq1419)))))))))))))))
theorem zX3_fewestPeople_83 {p : Nat → Nat} {v0 r0 : ml_M} : ∀ (l0 l0' : Nat) (hl0 : pt_r p l0 l0') (m n : ml_M) (hq : pt_Q p v0 r0 m n), pt_T (pt_WV p v0 r0) (fX3_fewestPeople_83 l0 m) (fX3_fewestPeople_83 l0' n) := by
  intro l0 l0' hl0 m n hq
  obtain ⟨rfl, dl0⟩ := hl0
  unfold fX3_fewestPeople_83
  exact (pt_ck (pt_kc hq (pt_rf dl0)) fun hc1420 => (pt_letr (pt_R hq (pt_rf dl0) hc1420) fun a1421 d_a1421 => (pt_ck (pt_in hq (pt_rf d_a1421) (pt_e2 (fun (a b : Int32) => a - b) (pt_e2 (fun (a b : Int32) => a <<< (b &&& 31)) rfl (pt_I hq (pt_rf dl0) hc1420)) rfl)) fun hi1422 => (pt_retV (pt_Ia hq (pt_rf d_a1421) hi1422.1 (pt_e2 (fun (a b : Int32) => a - b) (pt_e2 (fun (a b : Int32) => a <<< (b &&& 31)) rfl (pt_I hq (pt_rf dl0) hc1420)) rfl)) hq))))
theorem zX3_fewestPeople_6 {p : Nat → Nat} {v0 r0 : ml_M} : ∀ (fu : Nat) (l0 l0' : Nat) (hl0 : pt_r p l0 l0') (l1 l1' : Int32) (hl1 : l1 = l1') (m n : ml_M) (hq : pt_Q p v0 r0 m n), pt_T (pt_WV p v0 r0) (fX3_fewestPeople_6 fu l0 l1 m) (fX3_fewestPeople_6 fu l0' l1' n) := by
  intro fu
  induction fu with
  | zero => intro l0 l0' hl0 l1 l1' hl1 m n hq; exact pt_none
  | succ fu ih =>
  intro l0 l0' hl0 l1 l1' hl1 m n hq
  obtain ⟨rfl, dl0⟩ := hl0
  subst hl1
  have hk6 := ih
  unfold fX3_fewestPeople_6
  exact (pt_ck (pt_kc hq (pt_rf dl0)) fun hc1423 => (pt_ite (pt_e2 (fun (a b : Int32) => b ≤ a) rfl (pt_e2 (fun (a b : Int32) => a <<< (b &&& 31)) rfl (pt_I hq (pt_rf dl0) hc1423))) (fun _ => (zX3_fewestPeople_83   _ _ (pt_rf dl0) _ _ hq)) (fun _ => (pt_letr (pt_R hq (pt_rf dl0) hc1423) fun a1424 d_a1424 => (pt_ck (pt_in hq (pt_rf d_a1424) rfl) fun hi1425 => (pt_letk rfl (pt_sIa hq (pt_rf d_a1424) rfl (pt_I hq (pt_rf dl0) hc1423)) fun m1426 n1427 em1428 hq1429 => (zX3_fewestPeople_28 hk6 ml_fu _ _ (pt_rf dl0) _ _ rfl _ _ rfl _ _ hq1429)))))))
theorem zX3_fewestPeople {p : Nat → Nat} {v0 r0 : ml_M} : ∀ (l0 l0' : Nat) (hl0 : pt_r p l0 l0') (m n : ml_M) (hq : pt_Q p v0 r0 m n), pt_T (pt_WV p v0 r0) (fX3_fewestPeople l0 m) (fX3_fewestPeople l0' n) := by
  intro l0 l0' hl0 m n hq
  obtain ⟨rfl, dl0⟩ := hl0
  unfold fX3_fewestPeople
  exact (pt_ck (pt_kc hq (pt_rf dl0)) fun hc1430 => (pt_b1m (zX3_findLasts _ _ (pt_rf dl0) _ _ hq) fun m1431 n1432 hq1433 => (zX3_fewestPeople_6  ml_fu _ _ (pt_rf dl0) _ _ rfl _ _ hq1433)))
theorem zX10_travellers {p : Nat → Nat} {v0 r0 : ml_M} : ∀ (l0 l0' : Nat) (hl0 : pt_r p l0 l0') (m n : ml_M) (hq : pt_Q p v0 r0 m n), pt_T (pt_WV p v0 r0) (fX10_travellers l0 m) (fX10_travellers l0' n) := by
  intro l0 l0' hl0 m n hq
  obtain ⟨rfl, dl0⟩ := hl0
  unfold fX10_travellers
  exact (pt_ck (pt_kc hq (pt_rf dl0)) fun hc1434 => (pt_letr (pt_R hq (pt_rf dl0) hc1434) fun a1435 d_a1435 => (pt_letr (pt_R hq (pt_rf dl0) hc1434) fun a1436 d_a1436 => (pt_ck (pt_kc hq (pt_rf d_a1435)) fun hc1437 => (pt_b2 (zX3_gather _ _ (pt_rf d_a1435) _ _ (pt_rf d_a1436) _ _ (pt_I hq (pt_rf dl0) hc1434) _ _ (pt_e2 (fun (a b : Int32) => a - b) (pt_e2 (fun (a b : Int32) => a <<< (b &&& 31)) rfl (pt_I hq (pt_rf dl0) hc1434)) rfl) _ _ hq) fun r1438 m1439 n1440 hq1441 => (pt_ite rfl (fun _ => (pt_ck (pt_kc hq1441 (pt_rf dl0)) fun hc1442 => (pt_letr (pt_R hq1441 (pt_rf dl0) hc1442) fun a1443 d_a1443 => (pt_ck (pt_kc hq1441 (pt_rf d_a1443)) fun hc1444 => (pt_b2 (zX3_fewestPeople _ _ (pt_rf d_a1443) _ _ hq1441) fun r1445 m1446 n1447 hq1448 => (pt_retV rfl hq1448)))))) (fun _ => (pt_retV rfl hq1441))))))))
theorem zX10_water_83 {p : Nat → Nat} {v0 r0 : ml_M} {k7 k7' : Nat → Int32 → Int32 → Int32 → ml_M → Option (Int32 × ml_M)} (hk7 : ∀ (l0 l0' : Nat) (hl0 : pt_r p l0 l0') (l1 l1' : Int32) (hl1 : l1 = l1') (l2 l2' : Int32) (hl2 : l2 = l2') (l3 l3' : Int32) (hl3 : l3 = l3') (m n : ml_M) (hq : pt_Q p v0 r0 m n), pt_T (pt_WV p v0 r0) (k7 l0 l1 l2 l3 m) (k7' l0' l1' l2' l3' n)) : ∀ (l0 l0' : Nat) (hl0 : pt_r p l0 l0') (l1 l1' : Int32) (hl1 : l1 = l1') (l2 l2' : Int32) (hl2 : l2 = l2') (l3 l3' : Int32) (hl3 : l3 = l3') (m n : ml_M) (hq : pt_Q p v0 r0 m n), pt_T (pt_WV p v0 r0) (fX10_water_83 k7 l0 l1 l2 l3 m) (fX10_water_83 k7' l0' l1' l2' l3' n) := by
  intro l0 l0' hl0 l1 l1' hl1 l2 l2' hl2 l3 l3' hl3 m n hq
  obtain ⟨rfl, dl0⟩ := hl0
  subst hl1
  subst hl2
  subst hl3
  unfold fX10_water_83
  exact (hk7 _ _ (pt_rf dl0) _ _ rfl _ _ rfl _ _ rfl _ _ hq)
theorem zX10_water_89 {p : Nat → Nat} {v0 r0 : ml_M} : ∀ (l0 l0' : Nat) (hl0 : pt_r p l0 l0') (l1 l1' : Int32) (hl1 : l1 = l1') (l2 l2' : Int32) (hl2 : l2 = l2') (m n : ml_M) (hq : pt_Q p v0 r0 m n), pt_T (pt_WV p v0 r0) (fX10_water_89 l0 l1 l2 m) (fX10_water_89 l0' l1' l2' n) := by
  intro l0 l0' hl0 l1 l1' hl1 l2 l2' hl2 m n hq
  obtain ⟨rfl, dl0⟩ := hl0
  subst hl1
  subst hl2
  unfold fX10_water_89
  exact (pt_ite rfl (fun _ => (pt_ck (pt_kc hq (pt_rf dl0)) fun hc1449 => (pt_letk rfl (pt_sI hq (pt_rf dl0) rfl) fun m1450 n1451 em1452 hq1453 => (pt_retV rfl hq1453)))) (fun _ => (pt_retV rfl hq)))
theorem zX10_water_7 {p : Nat → Nat} {v0 r0 : ml_M} : ∀ (fu : Nat) (l0 l0' : Nat) (hl0 : pt_r p l0 l0') (l1 l1' : Int32) (hl1 : l1 = l1') (l2 l2' : Int32) (hl2 : l2 = l2') (l3 l3' : Int32) (hl3 : l3 = l3') (m n : ml_M) (hq : pt_Q p v0 r0 m n), pt_T (pt_WV p v0 r0) (fX10_water_7 fu l0 l1 l2 l3 m) (fX10_water_7 fu l0' l1' l2' l3' n) := by
  intro fu
  induction fu with
  | zero => intro l0 l0' hl0 l1 l1' hl1 l2 l2' hl2 l3 l3' hl3 m n hq; exact pt_none
  | succ fu ih =>
  intro l0 l0' hl0 l1 l1' hl1 l2 l2' hl2 l3 l3' hl3 m n hq
  obtain ⟨rfl, dl0⟩ := hl0
  subst hl1
  subst hl2
  subst hl3
  have hk7 := ih
  unfold fX10_water_7
  exact (pt_ck (pt_kc hq (pt_rf dl0)) fun hc1454 => (pt_ite (pt_e2 (fun (a b : Int32) => b ≤ a) rfl (pt_I hq (pt_rf dl0) hc1454)) (fun _ => (zX10_water_89   _ _ (pt_rf dl0) _ _ rfl _ _ rfl _ _ hq)) (fun _ => (pt_letr (pt_R hq (pt_rf dl0) hc1454) fun a1455 d_a1455 => (pt_ck (pt_in hq (pt_rf d_a1455) rfl) fun hi1456 => pt_letr (pt_Ra hq (pt_rf d_a1455) hi1456.1 rfl) fun a1457 d_a1457 => (pt_ck (pt_kc hq (pt_rf d_a1457)) fun hc1458 => (pt_b1 (zX10_isTrunk _ _ (pt_rf dl0) _ _ (pt_I hq (pt_rf d_a1457) hc1458) _ _ hq) fun r1459 => (pt_ite rfl (fun _ => (zX10_water_83 hk7  _ _ (pt_rf dl0) _ _ rfl _ _ rfl _ _ rfl _ _ hq)) (fun _ => (pt_letr (pt_R hq (pt_rf dl0) hc1454) fun a1460 d_a1460 => (pt_ck (pt_kc hq (pt_rf d_a1460)) fun hc1461 => (pt_letr (pt_R hq (pt_rf d_a1460) hc1461) fun a1462 d_a1462 => (pt_ck (pt_in hq (pt_rf d_a1462) (pt_I hq (pt_rf d_a1457) hc1458)) fun hi1463 => pt_letr (pt_Ra hq (pt_rf d_a1462) hi1463.1 (pt_I hq (pt_rf d_a1457) hc1458)) fun a1464 d_a1464 => (pt_ck (pt_kc hq (pt_rf d_a1464)) fun hc1465 => (pt_leti (pt_I hq (pt_rf d_a1464) hc1465) fun x1466 => (pt_ite (pt_e1 (fun (a : Int32) => a = 0) (pt_I hq (pt_rf d_a1457) hc1458)) (fun _ => (pt_leti rfl fun x1467 => (zX10_water_83 hk7  _ _ (pt_rf dl0) _ _ rfl _ _ rfl _ _ rfl _ _ hq))) (fun _ => (pt_leti rfl fun x1468 => (zX10_water_83 hk7  _ _ (pt_rf dl0) _ _ rfl _ _ rfl _ _ rfl _ _ hq)))))))))))))))))))
theorem zX10_water {p : Nat → Nat} {v0 r0 : ml_M} : ∀ (l0 l0' : Nat) (hl0 : pt_r p l0 l0') (m n : ml_M) (hq : pt_Q p v0 r0 m n), pt_T (pt_WV p v0 r0) (fX10_water l0 m) (fX10_water l0' n) := by
  intro l0 l0' hl0 m n hq
  obtain ⟨rfl, dl0⟩ := hl0
  unfold fX10_water
  exact (zX10_water_7  ml_fu _ _ (pt_rf dl0) _ _ rfl _ _ rfl _ _ rfl _ _ hq)
theorem zX10_ways {p : Nat → Nat} {v0 r0 : ml_M} : ∀ (l0 l0' : Nat) (hl0 : pt_r p l0 l0') (l1 l1' : Int32) (hl1 : l1 = l1') (m n : ml_M) (hq : pt_Q p v0 r0 m n), pt_T (pt_WV p v0 r0) (fX10_ways l0 l1 m) (fX10_ways l0' l1' n) := by
  intro l0 l0' hl0 l1 l1' hl1 m n hq
  obtain ⟨rfl, dl0⟩ := hl0
  subst hl1
  unfold fX10_ways
  exact (pt_b1 (zX10_within _ _ rfl _ _ rfl _ _ rfl _ _ hq) fun r1469 => (pt_ite rfl (fun _ => (pt_retV rfl hq)) (fun _ => (pt_ck (pt_kc hq (pt_rf dl0)) fun hc1470 => (pt_b1m (zX10_refreshSharings _ _ (pt_rf dl0) _ _ hq) fun m1471 n1472 hq1473 => (pt_ck (pt_kc hq1473 (pt_rf dl0)) fun hc1474 => (pt_letr (pt_R hq1473 (pt_rf dl0) hc1474) fun a1475 d_a1475 => (pt_ck (pt_kc hq1473 (pt_rf d_a1475)) fun hc1476 => (pt_letr (pt_R hq1473 (pt_rf d_a1475) hc1476) fun a1477 d_a1477 => (pt_ck (pt_in hq1473 (pt_rf d_a1477) rfl) fun hi1478 => (pt_retV (pt_Ia hq1473 (pt_rf d_a1477) hi1478.1 rfl) hq1473)))))))))))
theorem zX7_withPair {p : Nat → Nat} {v0 r0 : ml_M} : ∀ (l0 l0' : Nat) (hl0 : pt_r p l0 l0') (l1 l1' : Int32) (hl1 : l1 = l1') (l2 l2' : Int32) (hl2 : l2 = l2') (l3 l3' : Int32) (hl3 : l3 = l3') (m n : ml_M) (hq : pt_Q p v0 r0 m n), pt_T pt_Wv (fX7_withPair l0 l1 l2 l3 m) (fX7_withPair l0' l1' l2' l3' n) := by
  intro l0 l0' hl0 l1 l1' hl1 l2 l2' hl2 l3 l3' hl3 m n hq
  obtain ⟨rfl, dl0⟩ := hl0
  subst hl1
  subst hl2
  subst hl3
  unfold fX7_withPair
  exact (pt_ck (pt_kc hq (pt_rf dl0)) fun hc1479 => (pt_letr (pt_R hq (pt_rf dl0) hc1479) fun a1480 d_a1480 => (pt_ck (pt_in hq (pt_rf d_a1480) rfl) fun hi1481 => (pt_rtv (pt_Ia hq (pt_rf d_a1480) hi1481.1 rfl)))))
theorem zX10_sure_121 {p : Nat → Nat} {v0 r0 : ml_M} {k41 k41' : Nat → Int32 → Int32 → Int32 → Int32 → Int32 → ml_M → Option (Int32 × ml_M)} (hk41 : ∀ (l0 l0' : Nat) (hl0 : pt_r p l0 l0') (l1 l1' : Int32) (hl1 : l1 = l1') (l2 l2' : Int32) (hl2 : l2 = l2') (l3 l3' : Int32) (hl3 : l3 = l3') (l4 l4' : Int32) (hl4 : l4 = l4') (l5 l5' : Int32) (hl5 : l5 = l5') (m n : ml_M) (hq : pt_Q p v0 r0 m n), pt_T (pt_WV p v0 r0) (k41 l0 l1 l2 l3 l4 l5 m) (k41' l0' l1' l2' l3' l4' l5' n)) : ∀ (l0 l0' : Nat) (hl0 : pt_r p l0 l0') (l1 l1' : Int32) (hl1 : l1 = l1') (l2 l2' : Int32) (hl2 : l2 = l2') (l3 l3' : Int32) (hl3 : l3 = l3') (l4 l4' : Int32) (hl4 : l4 = l4') (l5 l5' : Int32) (hl5 : l5 = l5') (m n : ml_M) (hq : pt_Q p v0 r0 m n), pt_T (pt_WV p v0 r0) (fX10_sure_121 k41 l0 l1 l2 l3 l4 l5 m) (fX10_sure_121 k41' l0' l1' l2' l3' l4' l5' n) := by
  intro l0 l0' hl0 l1 l1' hl1 l2 l2' hl2 l3 l3' hl3 l4 l4' hl4 l5 l5' hl5 m n hq
  obtain ⟨rfl, dl0⟩ := hl0
  subst hl1
  subst hl2
  subst hl3
  subst hl4
  subst hl5
  unfold fX10_sure_121
  exact (hk41 _ _ (pt_rf dl0) _ _ rfl _ _ rfl _ _ rfl _ _ rfl _ _ rfl _ _ hq)
theorem zX10_sure_107 {p : Nat → Nat} {v0 r0 : ml_M} {k41 k41' : Nat → Int32 → Int32 → Int32 → Int32 → Int32 → ml_M → Option (Int32 × ml_M)} (hk41 : ∀ (l0 l0' : Nat) (hl0 : pt_r p l0 l0') (l1 l1' : Int32) (hl1 : l1 = l1') (l2 l2' : Int32) (hl2 : l2 = l2') (l3 l3' : Int32) (hl3 : l3 = l3') (l4 l4' : Int32) (hl4 : l4 = l4') (l5 l5' : Int32) (hl5 : l5 = l5') (m n : ml_M) (hq : pt_Q p v0 r0 m n), pt_T (pt_WV p v0 r0) (k41 l0 l1 l2 l3 l4 l5 m) (k41' l0' l1' l2' l3' l4' l5' n)) : ∀ (l0 l0' : Nat) (hl0 : pt_r p l0 l0') (l1 l1' : Int32) (hl1 : l1 = l1') (l2 l2' : Int32) (hl2 : l2 = l2') (l3 l3' : Int32) (hl3 : l3 = l3') (l4 l4' : Int32) (hl4 : l4 = l4') (l5 l5' : Int32) (hl5 : l5 = l5') (l6 l6' : Int32) (hl6 : l6 = l6') (m n : ml_M) (hq : pt_Q p v0 r0 m n), pt_T (pt_WV p v0 r0) (fX10_sure_107 k41 l0 l1 l2 l3 l4 l5 l6 m) (fX10_sure_107 k41' l0' l1' l2' l3' l4' l5' l6' n) := by
  intro l0 l0' hl0 l1 l1' hl1 l2 l2' hl2 l3 l3' hl3 l4 l4' hl4 l5 l5' hl5 l6 l6' hl6 m n hq
  obtain ⟨rfl, dl0⟩ := hl0
  subst hl1
  subst hl2
  subst hl3
  subst hl4
  subst hl5
  subst hl6
  unfold fX10_sure_107
  exact (pt_ite rfl (fun _ => (zX10_sure_121 hk41  _ _ (pt_rf dl0) _ _ rfl _ _ rfl _ _ rfl _ _ rfl _ _ rfl _ _ hq)) (fun _ => (pt_leti rfl fun x1482 => (zX10_sure_121 hk41  _ _ (pt_rf dl0) _ _ rfl _ _ rfl _ _ rfl _ _ rfl _ _ rfl _ _ hq))))
theorem zX10_sure_94 {p : Nat → Nat} {v0 r0 : ml_M} {k41 k41' : Nat → Int32 → Int32 → Int32 → Int32 → Int32 → ml_M → Option (Int32 × ml_M)} (hk41 : ∀ (l0 l0' : Nat) (hl0 : pt_r p l0 l0') (l1 l1' : Int32) (hl1 : l1 = l1') (l2 l2' : Int32) (hl2 : l2 = l2') (l3 l3' : Int32) (hl3 : l3 = l3') (l4 l4' : Int32) (hl4 : l4 = l4') (l5 l5' : Int32) (hl5 : l5 = l5') (m n : ml_M) (hq : pt_Q p v0 r0 m n), pt_T (pt_WV p v0 r0) (k41 l0 l1 l2 l3 l4 l5 m) (k41' l0' l1' l2' l3' l4' l5' n)) : ∀ (l0 l0' : Nat) (hl0 : pt_r p l0 l0') (l1 l1' : Int32) (hl1 : l1 = l1') (l2 l2' : Int32) (hl2 : l2 = l2') (l3 l3' : Int32) (hl3 : l3 = l3') (l4 l4' : Int32) (hl4 : l4 = l4') (l5 l5' : Int32) (hl5 : l5 = l5') (l6 l6' : Int32) (hl6 : l6 = l6') (m n : ml_M) (hq : pt_Q p v0 r0 m n), pt_T (pt_WV p v0 r0) (fX10_sure_94 k41 l0 l1 l2 l3 l4 l5 l6 m) (fX10_sure_94 k41' l0' l1' l2' l3' l4' l5' l6' n) := by
  intro l0 l0' hl0 l1 l1' hl1 l2 l2' hl2 l3 l3' hl3 l4 l4' hl4 l5 l5' hl5 l6 l6' hl6 m n hq
  obtain ⟨rfl, dl0⟩ := hl0
  subst hl1
  subst hl2
  subst hl3
  subst hl4
  subst hl5
  subst hl6
  unfold fX10_sure_94
  exact (pt_ite rfl (fun _ => (pt_leti rfl fun x1483 => (zX10_sure_107 hk41  _ _ (pt_rf dl0) _ _ rfl _ _ rfl _ _ rfl _ _ rfl _ _ rfl _ _ rfl _ _ hq))) (fun _ => (zX10_sure_107 hk41  _ _ (pt_rf dl0) _ _ rfl _ _ rfl _ _ rfl _ _ rfl _ _ rfl _ _ rfl _ _ hq)))
theorem zX10_sure_59 {p : Nat → Nat} {v0 r0 : ml_M} {k41 k41' : Nat → Int32 → Int32 → Int32 → Int32 → Int32 → ml_M → Option (Int32 × ml_M)} (hk41 : ∀ (l0 l0' : Nat) (hl0 : pt_r p l0 l0') (l1 l1' : Int32) (hl1 : l1 = l1') (l2 l2' : Int32) (hl2 : l2 = l2') (l3 l3' : Int32) (hl3 : l3 = l3') (l4 l4' : Int32) (hl4 : l4 = l4') (l5 l5' : Int32) (hl5 : l5 = l5') (m n : ml_M) (hq : pt_Q p v0 r0 m n), pt_T (pt_WV p v0 r0) (k41 l0 l1 l2 l3 l4 l5 m) (k41' l0' l1' l2' l3' l4' l5' n)) : ∀ (fu : Nat) (l0 l0' : Nat) (hl0 : pt_r p l0 l0') (l1 l1' : Int32) (hl1 : l1 = l1') (l2 l2' : Int32) (hl2 : l2 = l2') (l3 l3' : Int32) (hl3 : l3 = l3') (l4 l4' : Int32) (hl4 : l4 = l4') (l5 l5' : Int32) (hl5 : l5 = l5') (l6 l6' : Int32) (hl6 : l6 = l6') (l7 l7' : Int32) (hl7 : l7 = l7') (m n : ml_M) (hq : pt_Q p v0 r0 m n), pt_T (pt_WV p v0 r0) (fX10_sure_59 k41 fu l0 l1 l2 l3 l4 l5 l6 l7 m) (fX10_sure_59 k41' fu l0' l1' l2' l3' l4' l5' l6' l7' n) := by
  intro fu
  induction fu with
  | zero => intro l0 l0' hl0 l1 l1' hl1 l2 l2' hl2 l3 l3' hl3 l4 l4' hl4 l5 l5' hl5 l6 l6' hl6 l7 l7' hl7 m n hq; exact pt_none
  | succ fu ih =>
  intro l0 l0' hl0 l1 l1' hl1 l2 l2' hl2 l3 l3' hl3 l4 l4' hl4 l5 l5' hl5 l6 l6' hl6 l7 l7' hl7 m n hq
  obtain ⟨rfl, dl0⟩ := hl0
  subst hl1
  subst hl2
  subst hl3
  subst hl4
  subst hl5
  subst hl6
  subst hl7
  have hk59 := ih
  unfold fX10_sure_59
  exact (pt_ck (pt_kc hq (pt_rf dl0)) fun hc1484 => (pt_letr (pt_R hq (pt_rf dl0) hc1484) fun a1485 d_a1485 => (pt_ck (pt_kc hq (pt_rf d_a1485)) fun hc1486 => (pt_ite (pt_e2 (fun (a b : Int32) => b ≤ a) rfl (pt_I hq (pt_rf d_a1485) hc1486)) (fun _ => (zX10_sure_94 hk41  _ _ (pt_rf dl0) _ _ rfl _ _ rfl _ _ rfl _ _ rfl _ _ rfl _ _ rfl _ _ hq)) (fun _ => (pt_letr (pt_R hq (pt_rf dl0) hc1484) fun a1487 d_a1487 => (pt_ck (pt_kc hq (pt_rf d_a1487)) fun hc1488 => (pt_b1 (zX7_withPair _ _ (pt_rf d_a1487) _ _ rfl _ _ rfl _ _ rfl _ _ hq) fun r1489 => (pt_leti rfl fun x1490 => (hk59 _ _ (pt_rf dl0) _ _ rfl _ _ rfl _ _ rfl _ _ rfl _ _ rfl _ _ rfl _ _ rfl _ _ hq))))))))))
theorem zX10_sure_127 {p : Nat → Nat} {v0 r0 : ml_M} : ∀ (l0 l0' : Nat) (hl0 : pt_r p l0 l0') (l3 l3' : Int32) (hl3 : l3 = l3') (l4 l4' : Int32) (hl4 : l4 = l4') (m n : ml_M) (hq : pt_Q p v0 r0 m n), pt_T (pt_WV p v0 r0) (fX10_sure_127 l0 l3 l4 m) (fX10_sure_127 l0' l3' l4' n) := by
  intro l0 l0' hl0 l3 l3' hl3 l4 l4' hl4 m n hq
  obtain ⟨rfl, dl0⟩ := hl0
  subst hl3
  subst hl4
  unfold fX10_sure_127
  exact (pt_ck (pt_kc hq (pt_rf dl0)) fun hc1491 => (pt_letk rfl (pt_sI hq (pt_rf dl0) rfl) fun m1492 n1493 em1494 hq1495 => (pt_retV rfl hq1495)))
theorem zX10_sure_41 {p : Nat → Nat} {v0 r0 : ml_M} : ∀ (fu : Nat) (l0 l0' : Nat) (hl0 : pt_r p l0 l0') (l1 l1' : Int32) (hl1 : l1 = l1') (l2 l2' : Int32) (hl2 : l2 = l2') (l3 l3' : Int32) (hl3 : l3 = l3') (l4 l4' : Int32) (hl4 : l4 = l4') (l5 l5' : Int32) (hl5 : l5 = l5') (m n : ml_M) (hq : pt_Q p v0 r0 m n), pt_T (pt_WV p v0 r0) (fX10_sure_41 fu l0 l1 l2 l3 l4 l5 m) (fX10_sure_41 fu l0' l1' l2' l3' l4' l5' n) := by
  intro fu
  induction fu with
  | zero => intro l0 l0' hl0 l1 l1' hl1 l2 l2' hl2 l3 l3' hl3 l4 l4' hl4 l5 l5' hl5 m n hq; exact pt_none
  | succ fu ih =>
  intro l0 l0' hl0 l1 l1' hl1 l2 l2' hl2 l3 l3' hl3 l4 l4' hl4 l5 l5' hl5 m n hq
  obtain ⟨rfl, dl0⟩ := hl0
  subst hl1
  subst hl2
  subst hl3
  subst hl4
  subst hl5
  have hk41 := ih
  unfold fX10_sure_41
  exact (pt_ck (pt_kc hq (pt_rf dl0)) fun hc1496 => (pt_letr (pt_R hq (pt_rf dl0) hc1496) fun a1497 d_a1497 => (pt_ck (pt_kc hq (pt_rf d_a1497)) fun hc1498 => (pt_ite (pt_e2 (fun (a b : Int32) => b ≤ a) rfl (pt_I hq (pt_rf d_a1497) hc1498)) (fun _ => (zX10_sure_127   _ _ (pt_rf dl0) _ _ rfl _ _ rfl _ _ hq)) (fun _ => (zX10_sure_59 hk41 ml_fu _ _ (pt_rf dl0) _ _ rfl _ _ rfl _ _ rfl _ _ rfl _ _ rfl _ _ rfl _ _ rfl _ _ hq))))))
theorem zX10_sure {p : Nat → Nat} {v0 r0 : ml_M} : ∀ (l0 l0' : Nat) (hl0 : pt_r p l0 l0') (l1 l1' : Int32) (hl1 : l1 = l1') (m n : ml_M) (hq : pt_Q p v0 r0 m n), pt_T (pt_WV p v0 r0) (fX10_sure l0 l1 m) (fX10_sure l0' l1' n) := by
  intro l0 l0' hl0 l1 l1' hl1 m n hq
  obtain ⟨rfl, dl0⟩ := hl0
  subst hl1
  unfold fX10_sure
  exact (pt_b1 (zX10_within _ _ rfl _ _ rfl _ _ rfl _ _ hq) fun r1499 => (pt_ite rfl (fun _ => (pt_retV rfl hq)) (fun _ => (pt_ck (pt_kc hq (pt_rf dl0)) fun hc1500 => (pt_b1m (zX10_refreshSharings _ _ (pt_rf dl0) _ _ hq) fun m1501 n1502 hq1503 => (pt_ck (pt_kc hq1503 (pt_rf dl0)) fun hc1504 => (pt_letr (pt_R hq1503 (pt_rf dl0) hc1504) fun a1505 d_a1505 => (pt_ck (pt_kc hq1503 (pt_rf d_a1505)) fun hc1506 => (pt_letr (pt_R hq1503 (pt_rf d_a1505) hc1506) fun a1507 d_a1507 => (pt_ck (pt_in hq1503 (pt_rf d_a1507) rfl) fun hi1508 => (pt_leti (pt_Ia hq1503 (pt_rf d_a1507) hi1508.1 rfl) fun x1509 => (pt_ite rfl (fun _ => (pt_retV rfl hq1503)) (fun _ => (zX10_sure_41  ml_fu _ _ (pt_rf dl0) _ _ rfl _ _ rfl _ _ rfl _ _ rfl _ _ rfl _ _ hq1503))))))))))))))
theorem zX10_next_122 {p : Nat → Nat} {v0 r0 : ml_M} {k49 k49' : Nat → Int32 → Int32 → Int32 → Int32 → ml_M → Option (Int32 × ml_M)} (hk49 : ∀ (l0 l0' : Nat) (hl0 : pt_r p l0 l0') (l1 l1' : Int32) (hl1 : l1 = l1') (l2 l2' : Int32) (hl2 : l2 = l2') (l3 l3' : Int32) (hl3 : l3 = l3') (l4 l4' : Int32) (hl4 : l4 = l4') (m n : ml_M) (hq : pt_Q p v0 r0 m n), pt_T (pt_WV p v0 r0) (k49 l0 l1 l2 l3 l4 m) (k49' l0' l1' l2' l3' l4' n)) : ∀ (l0 l0' : Nat) (hl0 : pt_r p l0 l0') (l1 l1' : Int32) (hl1 : l1 = l1') (l2 l2' : Int32) (hl2 : l2 = l2') (l3 l3' : Int32) (hl3 : l3 = l3') (l4 l4' : Int32) (hl4 : l4 = l4') (m n : ml_M) (hq : pt_Q p v0 r0 m n), pt_T (pt_WV p v0 r0) (fX10_next_122 k49 l0 l1 l2 l3 l4 m) (fX10_next_122 k49' l0' l1' l2' l3' l4' n) := by
  intro l0 l0' hl0 l1 l1' hl1 l2 l2' hl2 l3 l3' hl3 l4 l4' hl4 m n hq
  obtain ⟨rfl, dl0⟩ := hl0
  subst hl1
  subst hl2
  subst hl3
  subst hl4
  unfold fX10_next_122
  exact (hk49 _ _ (pt_rf dl0) _ _ rfl _ _ rfl _ _ rfl _ _ rfl _ _ hq)
theorem zX10_next_116 {p : Nat → Nat} {v0 r0 : ml_M} {k49 k49' : Nat → Int32 → Int32 → Int32 → Int32 → ml_M → Option (Int32 × ml_M)} (hk49 : ∀ (l0 l0' : Nat) (hl0 : pt_r p l0 l0') (l1 l1' : Int32) (hl1 : l1 = l1') (l2 l2' : Int32) (hl2 : l2 = l2') (l3 l3' : Int32) (hl3 : l3 = l3') (l4 l4' : Int32) (hl4 : l4 = l4') (m n : ml_M) (hq : pt_Q p v0 r0 m n), pt_T (pt_WV p v0 r0) (k49 l0 l1 l2 l3 l4 m) (k49' l0' l1' l2' l3' l4' n)) : ∀ (l0 l0' : Nat) (hl0 : pt_r p l0 l0') (l1 l1' : Int32) (hl1 : l1 = l1') (l4 l4' : Int32) (hl4 : l4 = l4') (l5 l5' : Int32) (hl5 : l5 = l5') (m n : ml_M) (hq : pt_Q p v0 r0 m n), pt_T (pt_WV p v0 r0) (fX10_next_116 k49 l0 l1 l4 l5 m) (fX10_next_116 k49' l0' l1' l4' l5' n) := by
  intro l0 l0' hl0 l1 l1' hl1 l4 l4' hl4 l5 l5' hl5 m n hq
  obtain ⟨rfl, dl0⟩ := hl0
  subst hl1
  subst hl4
  subst hl5
  unfold fX10_next_116
  exact (zX10_next_122 hk49  _ _ (pt_rf dl0) _ _ rfl _ _ rfl _ _ rfl _ _ rfl _ _ hq)
theorem zX10_next_104 {p : Nat → Nat} {v0 r0 : ml_M} {k49 k49' : Nat → Int32 → Int32 → Int32 → Int32 → ml_M → Option (Int32 × ml_M)} (hk49 : ∀ (l0 l0' : Nat) (hl0 : pt_r p l0 l0') (l1 l1' : Int32) (hl1 : l1 = l1') (l2 l2' : Int32) (hl2 : l2 = l2') (l3 l3' : Int32) (hl3 : l3 = l3') (l4 l4' : Int32) (hl4 : l4 = l4') (m n : ml_M) (hq : pt_Q p v0 r0 m n), pt_T (pt_WV p v0 r0) (k49 l0 l1 l2 l3 l4 m) (k49' l0' l1' l2' l3' l4' n)) : ∀ (l0 l0' : Nat) (hl0 : pt_r p l0 l0') (l1 l1' : Int32) (hl1 : l1 = l1') (l2 l2' : Int32) (hl2 : l2 = l2') (l3 l3' : Int32) (hl3 : l3 = l3') (l4 l4' : Int32) (hl4 : l4 = l4') (l5 l5' : Int32) (hl5 : l5 = l5') (m n : ml_M) (hq : pt_Q p v0 r0 m n), pt_T (pt_WV p v0 r0) (fX10_next_104 k49 l0 l1 l2 l3 l4 l5 m) (fX10_next_104 k49' l0' l1' l2' l3' l4' l5' n) := by
  intro l0 l0' hl0 l1 l1' hl1 l2 l2' hl2 l3 l3' hl3 l4 l4' hl4 l5 l5' hl5 m n hq
  obtain ⟨rfl, dl0⟩ := hl0
  subst hl1
  subst hl2
  subst hl3
  subst hl4
  subst hl5
  unfold fX10_next_104
  exact (pt_ite rfl (fun _ => (zX10_next_116 hk49  _ _ (pt_rf dl0) _ _ rfl _ _ rfl _ _ rfl _ _ hq)) (fun _ => (pt_ite rfl (fun _ => (zX10_next_122 hk49  _ _ (pt_rf dl0) _ _ rfl _ _ rfl _ _ rfl _ _ rfl _ _ hq)) (fun _ => (zX10_next_116 hk49  _ _ (pt_rf dl0) _ _ rfl _ _ rfl _ _ rfl _ _ hq)))))
theorem zX10_next_67 {p : Nat → Nat} {v0 r0 : ml_M} {k49 k49' : Nat → Int32 → Int32 → Int32 → Int32 → ml_M → Option (Int32 × ml_M)} (hk49 : ∀ (l0 l0' : Nat) (hl0 : pt_r p l0 l0') (l1 l1' : Int32) (hl1 : l1 = l1') (l2 l2' : Int32) (hl2 : l2 = l2') (l3 l3' : Int32) (hl3 : l3 = l3') (l4 l4' : Int32) (hl4 : l4 = l4') (m n : ml_M) (hq : pt_Q p v0 r0 m n), pt_T (pt_WV p v0 r0) (k49 l0 l1 l2 l3 l4 m) (k49' l0' l1' l2' l3' l4' n)) : ∀ (fu : Nat) (l0 l0' : Nat) (hl0 : pt_r p l0 l0') (l1 l1' : Int32) (hl1 : l1 = l1') (l2 l2' : Int32) (hl2 : l2 = l2') (l3 l3' : Int32) (hl3 : l3 = l3') (l4 l4' : Int32) (hl4 : l4 = l4') (l5 l5' : Int32) (hl5 : l5 = l5') (l6 l6' : Int32) (hl6 : l6 = l6') (m n : ml_M) (hq : pt_Q p v0 r0 m n), pt_T (pt_WV p v0 r0) (fX10_next_67 k49 fu l0 l1 l2 l3 l4 l5 l6 m) (fX10_next_67 k49' fu l0' l1' l2' l3' l4' l5' l6' n) := by
  intro fu
  induction fu with
  | zero => intro l0 l0' hl0 l1 l1' hl1 l2 l2' hl2 l3 l3' hl3 l4 l4' hl4 l5 l5' hl5 l6 l6' hl6 m n hq; exact pt_none
  | succ fu ih =>
  intro l0 l0' hl0 l1 l1' hl1 l2 l2' hl2 l3 l3' hl3 l4 l4' hl4 l5 l5' hl5 l6 l6' hl6 m n hq
  obtain ⟨rfl, dl0⟩ := hl0
  subst hl1
  subst hl2
  subst hl3
  subst hl4
  subst hl5
  subst hl6
  have hk67 := ih
  unfold fX10_next_67
  exact (pt_ck (pt_kc hq (pt_rf dl0)) fun hc1510 => (pt_letr (pt_R hq (pt_rf dl0) hc1510) fun a1511 d_a1511 => (pt_ck (pt_kc hq (pt_rf d_a1511)) fun hc1512 => (pt_ite (pt_e2 (fun (a b : Int32) => b ≤ a) rfl (pt_I hq (pt_rf d_a1511) hc1512)) (fun _ => (zX10_next_104 hk49  _ _ (pt_rf dl0) _ _ rfl _ _ rfl _ _ rfl _ _ rfl _ _ rfl _ _ hq)) (fun _ => (pt_letr (pt_R hq (pt_rf dl0) hc1510) fun a1513 d_a1513 => (pt_ck (pt_kc hq (pt_rf d_a1513)) fun hc1514 => (pt_b1 (zX7_withPair _ _ (pt_rf d_a1513) _ _ rfl _ _ rfl _ _ rfl _ _ hq) fun r1515 => (pt_leti rfl fun x1516 => (hk67 _ _ (pt_rf dl0) _ _ rfl _ _ rfl _ _ rfl _ _ rfl _ _ rfl _ _ rfl _ _ hq))))))))))
theorem zX10_next_128 {p : Nat → Nat} {v0 r0 : ml_M} : ∀ (l0 l0' : Nat) (hl0 : pt_r p l0 l0') (l2 l2' : Int32) (hl2 : l2 = l2') (l3 l3' : Int32) (hl3 : l3 = l3') (m n : ml_M) (hq : pt_Q p v0 r0 m n), pt_T (pt_WV p v0 r0) (fX10_next_128 l0 l2 l3 m) (fX10_next_128 l0' l2' l3' n) := by
  intro l0 l0' hl0 l2 l2' hl2 l3 l3' hl3 m n hq
  obtain ⟨rfl, dl0⟩ := hl0
  subst hl2
  subst hl3
  unfold fX10_next_128
  exact (pt_ck (pt_kc hq (pt_rf dl0)) fun hc1517 => (pt_letk rfl (pt_sI hq (pt_rf dl0) rfl) fun m1518 n1519 em1520 hq1521 => (pt_retV rfl hq1521)))
theorem zX10_next_49 {p : Nat → Nat} {v0 r0 : ml_M} : ∀ (fu : Nat) (l0 l0' : Nat) (hl0 : pt_r p l0 l0') (l1 l1' : Int32) (hl1 : l1 = l1') (l2 l2' : Int32) (hl2 : l2 = l2') (l3 l3' : Int32) (hl3 : l3 = l3') (l4 l4' : Int32) (hl4 : l4 = l4') (m n : ml_M) (hq : pt_Q p v0 r0 m n), pt_T (pt_WV p v0 r0) (fX10_next_49 fu l0 l1 l2 l3 l4 m) (fX10_next_49 fu l0' l1' l2' l3' l4' n) := by
  intro fu
  induction fu with
  | zero => intro l0 l0' hl0 l1 l1' hl1 l2 l2' hl2 l3 l3' hl3 l4 l4' hl4 m n hq; exact pt_none
  | succ fu ih =>
  intro l0 l0' hl0 l1 l1' hl1 l2 l2' hl2 l3 l3' hl3 l4 l4' hl4 m n hq
  obtain ⟨rfl, dl0⟩ := hl0
  subst hl1
  subst hl2
  subst hl3
  subst hl4
  have hk49 := ih
  unfold fX10_next_49
  exact (pt_ck (pt_kc hq (pt_rf dl0)) fun hc1522 => (pt_letr (pt_R hq (pt_rf dl0) hc1522) fun a1523 d_a1523 => (pt_ck (pt_kc hq (pt_rf d_a1523)) fun hc1524 => (pt_ite (pt_e2 (fun (a b : Int32) => b ≤ a) rfl (pt_I hq (pt_rf d_a1523) hc1524)) (fun _ => (zX10_next_128   _ _ (pt_rf dl0) _ _ rfl _ _ rfl _ _ hq)) (fun _ => (zX10_next_67 hk49 ml_fu _ _ (pt_rf dl0) _ _ rfl _ _ rfl _ _ rfl _ _ rfl _ _ rfl _ _ rfl _ _ hq))))))
theorem zX10_next {p : Nat → Nat} {v0 r0 : ml_M} : ∀ (l0 l0' : Nat) (hl0 : pt_r p l0 l0') (l1 l1' : Int32) (hl1 : l1 = l1') (m n : ml_M) (hq : pt_Q p v0 r0 m n), pt_T (pt_WV p v0 r0) (fX10_next l0 l1 m) (fX10_next l0' l1' n) := by
  intro l0 l0' hl0 l1 l1' hl1 m n hq
  obtain ⟨rfl, dl0⟩ := hl0
  subst hl1
  unfold fX10_next
  exact (pt_b1 (zX10_within _ _ rfl _ _ rfl _ _ rfl _ _ hq) fun r1525 => (pt_ite rfl (fun _ => (pt_retV rfl hq)) (fun _ => (pt_ck (pt_kc hq (pt_rf dl0)) fun hc1526 => (pt_b1m (zX10_refreshSharings _ _ (pt_rf dl0) _ _ hq) fun m1527 n1528 hq1529 => (pt_ck (pt_kc hq1529 (pt_rf dl0)) fun hc1530 => (pt_letr (pt_R hq1529 (pt_rf dl0) hc1530) fun a1531 d_a1531 => (pt_ck (pt_kc hq1529 (pt_rf d_a1531)) fun hc1532 => (pt_letr (pt_R hq1529 (pt_rf d_a1531) hc1532) fun a1533 d_a1533 => (pt_ck (pt_in hq1529 (pt_rf d_a1533) rfl) fun hi1534 => (pt_ite (pt_e1 (fun (a : Int32) => a = 0) (pt_Ia hq1529 (pt_rf d_a1533) hi1534.1 rfl)) (fun _ => (pt_retV rfl hq1529)) (fun _ => (pt_letr (pt_R hq1529 (pt_rf dl0) hc1530) fun a1535 d_a1535 => (pt_ck (pt_kc hq1529 (pt_rf d_a1535)) fun hc1536 => (pt_ite (pt_e1 (fun (a : Int32) => a = 0) (pt_I hq1529 (pt_rf d_a1535) hc1536)) (fun _ => (pt_retV rfl hq1529)) (fun _ => (zX10_next_49  ml_fu _ _ (pt_rf dl0) _ _ rfl _ _ rfl _ _ rfl _ _ rfl _ _ hq1529)))))))))))))))))

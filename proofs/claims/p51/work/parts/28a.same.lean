/-! printed by wip/p51/emit2.py: the class does the same in memories that hold the same -/
theorem zJ6_bitCount_0f7a4 {p : Nat → Nat} {v0 r0 : ml_M} : ∀ (l0 l0' : Int32) (hl0 : l0 = l0') (m n : ml_M) (hq : pt_Q p v0 r0 m n), pt_T pt_Wv (fJ6_bitCount_0f7a4 l0 m) (fJ6_bitCount_0f7a4 l0' n) := by
  intro l0 l0' hl0 m n hq
  subst hl0
  unfold fJ6_bitCount_0f7a4
  exact (pt_leti rfl fun x1 => (pt_leti rfl fun x2 => (pt_leti rfl fun x3 => (pt_leti rfl fun x4 => (pt_leti rfl fun x5 => (pt_rtv rfl))))))
theorem zJ7_copyOf_59c91 {p : Nat → Nat} {v0 r0 : ml_M} : ∀ (l0 l0' : Nat) (hl0 : pt_r p l0 l0') (l1 l1' : Int32) (hl1 : l1 = l1') (m n : ml_M) (hq : pt_Q p v0 r0 m n), pt_T (pt_WR p v0 r0) (fJ7_copyOf_59c91 l0 l1 m) (fJ7_copyOf_59c91 l0' l1' n) := by
  intro l0 l0' hl0 l1 l1' hl1 m n hq
  obtain ⟨rfl, dl0⟩ := hl0
  subst hl1
  unfold fJ7_copyOf_59c91
  exact (pt_ck (pt_kc hq (pt_rf dl0)) fun hc6 => (pt_ite (pt_e2 (fun (a b : Int32) => a = b) rfl (pt_len hq (pt_rf dl0))) (fun _ => (pt_cl hq (pt_rf dl0) hc6 fun a18 m19 n20 d_a18 hc21 hq22 => (pt_retR (pt_rf d_a18) hq22))) (fun _ => (pt_ck (pt_lenc rfl) fun _ => (pt_al hq rfl rfl fun a7 m8 n9 d_a7 hc10 hq11 => (pt_ck (pt_kc hq11 (pt_rf dl0)) fun hc12 => (pt_ck (pt_cpo hq11 (pt_rf dl0) (pt_rf d_a7) rfl rfl (pt_e2 (fun (a b : Int32) => if b < a then b else a) (pt_len hq11 (pt_rf dl0)) rfl)) fun ho13 => (pt_letk rfl (pt_cp hq11 (pt_rf dl0) (pt_rf d_a7) rfl rfl (pt_e2 (fun (a b : Int32) => if b < a then b else a) (pt_len hq11 (pt_rf dl0)) rfl) ho13.1.1) fun m14 n15 em16 hq17 => (pt_retR (pt_rf d_a7) hq17)))))))))
theorem zJ7_fill_031fb_5 {p : Nat → Nat} {v0 r0 : ml_M} : ∀ (fu : Nat) (l0 l0' : Nat) (hl0 : pt_r p l0 l0') (l1 l1' : Int32) (hl1 : l1 = l1') (l2 l2' : Int32) (hl2 : l2 = l2') (l3 l3' : Int32) (hl3 : l3 = l3') (m n : ml_M) (hq : pt_Q p v0 r0 m n), pt_T (pt_WM p v0 r0) (fJ7_fill_031fb_5 fu l0 l1 l2 l3 m) (fJ7_fill_031fb_5 fu l0' l1' l2' l3' n) := by
  intro fu
  induction fu with
  | zero => intro l0 l0' hl0 l1 l1' hl1 l2 l2' hl2 l3 l3' hl3 m n hq; exact pt_none
  | succ fu ih =>
  intro l0 l0' hl0 l1 l1' hl1 l2 l2' hl2 l3 l3' hl3 m n hq
  obtain ⟨rfl, dl0⟩ := hl0
  subst hl1
  subst hl2
  subst hl3
  have hk5 := ih
  unfold fJ7_fill_031fb_5
  exact (pt_ite rfl (fun _ => (pt_retM hq)) (fun _ => (pt_ck (pt_in hq (pt_rf dl0) rfl) fun hi23 => (pt_letk rfl (pt_sIa hq (pt_rf dl0) rfl rfl) fun m24 n25 em26 hq27 => (hk5 _ _ (pt_rf dl0) _ _ rfl _ _ rfl _ _ rfl _ _ hq27)))))
theorem zJ7_fill_031fb {p : Nat → Nat} {v0 r0 : ml_M} : ∀ (l0 l0' : Nat) (hl0 : pt_r p l0 l0') (l1 l1' : Int32) (hl1 : l1 = l1') (m n : ml_M) (hq : pt_Q p v0 r0 m n), pt_T (pt_WM p v0 r0) (fJ7_fill_031fb l0 l1 m) (fJ7_fill_031fb l0' l1' n) := by
  intro l0 l0' hl0 l1 l1' hl1 m n hq
  obtain ⟨rfl, dl0⟩ := hl0
  subst hl1
  unfold fJ7_fill_031fb
  exact (pt_ck (pt_kc hq (pt_rf dl0)) fun hc28 => (pt_leti (pt_len hq (pt_rf dl0)) fun x29 => (zJ7_fill_031fb_5  ml_fu _ _ (pt_rf dl0) _ _ rfl _ _ rfl _ _ rfl _ _ hq)))
theorem zJ7_fill_53178_5 {p : Nat → Nat} {v0 r0 : ml_M} : ∀ (fu : Nat) (l0 l0' : Nat) (hl0 : pt_r p l0 l0') (l1 l1' : Int32) (hl1 : l1 = l1') (l2 l2' : Int32) (hl2 : l2 = l2') (l3 l3' : Int32) (hl3 : l3 = l3') (m n : ml_M) (hq : pt_Q p v0 r0 m n), pt_T (pt_WM p v0 r0) (fJ7_fill_53178_5 fu l0 l1 l2 l3 m) (fJ7_fill_53178_5 fu l0' l1' l2' l3' n) := by
  intro fu
  induction fu with
  | zero => intro l0 l0' hl0 l1 l1' hl1 l2 l2' hl2 l3 l3' hl3 m n hq; exact pt_none
  | succ fu ih =>
  intro l0 l0' hl0 l1 l1' hl1 l2 l2' hl2 l3 l3' hl3 m n hq
  obtain ⟨rfl, dl0⟩ := hl0
  subst hl1
  subst hl2
  subst hl3
  have hk5 := ih
  unfold fJ7_fill_53178_5
  exact (pt_ite rfl (fun _ => (pt_retM hq)) (fun _ => (pt_ck (pt_in hq (pt_rf dl0) rfl) fun hi30 => (pt_letk rfl (pt_sIa hq (pt_rf dl0) rfl rfl) fun m31 n32 em33 hq34 => (hk5 _ _ (pt_rf dl0) _ _ rfl _ _ rfl _ _ rfl _ _ hq34)))))
theorem zJ7_fill_53178 {p : Nat → Nat} {v0 r0 : ml_M} : ∀ (l0 l0' : Nat) (hl0 : pt_r p l0 l0') (l1 l1' : Int32) (hl1 : l1 = l1') (m n : ml_M) (hq : pt_Q p v0 r0 m n), pt_T (pt_WM p v0 r0) (fJ7_fill_53178 l0 l1 m) (fJ7_fill_53178 l0' l1' n) := by
  intro l0 l0' hl0 l1 l1' hl1 m n hq
  obtain ⟨rfl, dl0⟩ := hl0
  subst hl1
  unfold fJ7_fill_53178
  exact (pt_ck (pt_kc hq (pt_rf dl0)) fun hc35 => (pt_leti (pt_len hq (pt_rf dl0)) fun x36 => (zJ7_fill_53178_5  ml_fu _ _ (pt_rf dl0) _ _ rfl _ _ rfl _ _ rfl _ _ hq)))
theorem zX10_within {p : Nat → Nat} {v0 r0 : ml_M} : ∀ (l0 l0' : Int32) (hl0 : l0 = l0') (l1 l1' : Int32) (hl1 : l1 = l1') (l2 l2' : Int32) (hl2 : l2 = l2') (m n : ml_M) (hq : pt_Q p v0 r0 m n), pt_T pt_Wv (fX10_within l0 l1 l2 m) (fX10_within l0' l1' l2' n) := by
  intro l0 l0' hl0 l1 l1' hl1 l2 l2' hl2 m n hq
  subst hl0
  subst hl1
  subst hl2
  unfold fX10_within
  exact (pt_ite rfl (fun _ => (pt_rtv rfl)) (fun _ => (pt_ite rfl (fun _ => (pt_rtv rfl)) (fun _ => (pt_rtv rfl)))))
theorem zX10_isText {p : Nat → Nat} {v0 r0 : ml_M} : ∀ (l0 l0' : Int32) (hl0 : l0 = l0') (m n : ml_M) (hq : pt_Q p v0 r0 m n), pt_T pt_Wv (fX10_isText l0 m) (fX10_isText l0' n) := by
  intro l0 l0' hl0 m n hq
  subst hl0
  unfold fX10_isText
  exact (pt_b1 (zX10_within _ _ rfl _ _ rfl _ _ rfl _ _ hq) fun r37 => (pt_ck (pt_z01 rfl) fun _ => (pt_rtv rfl)))
theorem zX10_found {p : Nat → Nat} {v0 r0 : ml_M} : ∀ (l0 l0' : Nat) (hl0 : pt_r p l0 l0') (l1 l1' : Int32) (hl1 : l1 = l1') (m n : ml_M) (hq : pt_Q p v0 r0 m n), pt_T (pt_WV p v0 r0) (fX10_found l0 l1 m) (fX10_found l0' l1' n) := by
  intro l0 l0' hl0 l1 l1' hl1 m n hq
  obtain ⟨rfl, dl0⟩ := hl0
  subst hl1
  unfold fX10_found
  exact (pt_ck (pt_kc hq (pt_rf dl0)) fun hc38 => (pt_letk rfl (pt_sI hq (pt_rf dl0) rfl) fun m39 n40 em41 hq42 => (pt_letr (pt_R hq42 (pt_rf dl0) (ml_kk em41 hc38)) fun a43 d_a43 => (pt_ck (pt_in hq42 (pt_rf d_a43) rfl) fun hi44 => (pt_ck (pt_in hq42 (pt_rf d_a43) rfl) fun hi45 => (pt_letk rfl (pt_sIa hq42 (pt_rf d_a43) rfl (pt_e2 (fun (a b : Int32) => a + b) (pt_Ia hq42 (pt_rf d_a43) hi44.1 rfl) rfl)) fun m46 n47 em48 hq49 => (pt_retV rfl hq49)))))))
theorem zX10_text {p : Nat → Nat} {v0 r0 : ml_M} : ∀ (l0 l0' : Nat) (hl0 : pt_r p l0 l0') (l1 l1' : Int32) (hl1 : l1 = l1') (l2 l2' : Int32) (hl2 : l2 = l2') (m n : ml_M) (hq : pt_Q p v0 r0 m n), pt_T (pt_WV p v0 r0) (fX10_text l0 l1 l2 m) (fX10_text l0' l1' l2' n) := by
  intro l0 l0' hl0 l1 l1' hl1 l2 l2' hl2 m n hq
  obtain ⟨rfl, dl0⟩ := hl0
  subst hl1
  subst hl2
  unfold fX10_text
  exact (pt_b1 (zX10_isText _ _ rfl _ _ hq) fun r50 => (pt_ite rfl (fun _ => (pt_retV rfl hq)) (fun _ => (pt_ite rfl (fun _ => (pt_ite rfl (fun _ => (pt_ck (pt_lenc rfl) fun _ => (pt_al hq rfl rfl fun a51 m52 n53 d_a51 hc54 hq55 => (pt_b1m (zJ7_fill_031fb _ _ (pt_rf d_a51) _ _ rfl _ _ hq55) fun m56 n57 hq58 => (pt_ck (pt_kc hq58 (pt_rf dl0)) fun hc59 => (pt_letr (pt_R hq58 (pt_rf dl0) hc59) fun a60 d_a60 => (pt_ck (pt_kc hq58 (pt_rf d_a51)) fun hc62 => (pt_ck (pt_in hq58 (pt_rf d_a60) rfl) fun hi61 => (pt_letk rfl (pt_sRa hq58 (pt_rf d_a60) rfl (pt_rf d_a51)) fun m63 n64 em65 hq66 => (pt_retV rfl hq66)))))))))) (fun _ => (pt_ck (pt_kc hq (pt_rf dl0)) fun hc67 => (pt_b2 (zX10_found _ _ (pt_rf dl0) _ _ rfl _ _ hq) fun r68 m69 n70 hq71 => (pt_retV rfl hq71)))))) (fun _ => (pt_retV rfl hq))))))
theorem zX10_put_39 {p : Nat → Nat} {v0 r0 : ml_M} : ∀ (l0 l0' : Nat) (hl0 : pt_r p l0 l0') (m n : ml_M) (hq : pt_Q p v0 r0 m n), pt_T (pt_WV p v0 r0) (fX10_put_39 l0 m) (fX10_put_39 l0' n) := by
  intro l0 l0' hl0 m n hq
  obtain ⟨rfl, dl0⟩ := hl0
  unfold fX10_put_39
  exact (pt_ck (pt_kc hq (pt_rf dl0)) fun hc72 => (pt_b2 (zX10_found _ _ (pt_rf dl0) _ _ rfl _ _ hq) fun r73 m74 n75 hq76 => (pt_retV rfl hq76)))
theorem zX10_put {p : Nat → Nat} {v0 r0 : ml_M} : ∀ (l0 l0' : Nat) (hl0 : pt_r p l0 l0') (l1 l1' : Int32) (hl1 : l1 = l1') (l2 l2' : Int32) (hl2 : l2 = l2') (l3 l3' : Int32) (hl3 : l3 = l3') (m n : ml_M) (hq : pt_Q p v0 r0 m n), pt_T (pt_WV p v0 r0) (fX10_put l0 l1 l2 l3 m) (fX10_put l0' l1' l2' l3' n) := by
  intro l0 l0' hl0 l1 l1' hl1 l2 l2' hl2 l3 l3' hl3 m n hq
  obtain ⟨rfl, dl0⟩ := hl0
  subst hl1
  subst hl2
  subst hl3
  unfold fX10_put
  exact (pt_b1 (zX10_isText _ _ rfl _ _ hq) fun r77 => (pt_ite rfl (fun _ => (pt_retV rfl hq)) (fun _ => (pt_ck (pt_kc hq (pt_rf dl0)) fun hc78 => (pt_letr (pt_R hq (pt_rf dl0) hc78) fun a79 d_a79 => (pt_ck (pt_in hq (pt_rf d_a79) rfl) fun hi80 => pt_letr (pt_Ra hq (pt_rf d_a79) hi80.1 rfl) fun a81 d_a81 => (pt_ite (pt_nul hq.1 (pt_rf d_a81)) (fun _ => (pt_b2 (zX10_found _ _ (pt_rf dl0) _ _ rfl _ _ hq) fun r90 m91 n92 hq93 => (pt_retV rfl hq93))) (fun _ => (pt_ite rfl (fun _ => (zX10_put_39   _ _ (pt_rf dl0) _ _ hq)) (fun _ => (pt_ck (pt_kc hq (pt_rf d_a81)) fun hc82 => (pt_ite (pt_e2 (fun (a b : Int32) => a < b) rfl (pt_len hq (pt_rf d_a81))) (fun _ => (pt_ck (pt_in hq (pt_rf d_a81) rfl) fun hi83 => (pt_leti (pt_Ia hq (pt_rf d_a81) hi83.1 rfl) fun x84 => (pt_ck (pt_in hq (pt_rf d_a81) rfl) fun hi85 => (pt_letk rfl (pt_sIa hq (pt_rf d_a81) rfl rfl) fun m86 n87 em88 hq89 => (pt_retV rfl hq89)))))) (fun _ => (zX10_put_39   _ _ (pt_rf dl0) _ _ hq))))))))))))))
theorem zX1_init {p : Nat → Nat} {v0 r0 : ml_M} : ∀ (l0 l0' : Nat) (hl0 : pt_r p l0 l0') (l1 l1' : Nat) (hl1 : pt_r p l1 l1') (m n : ml_M) (hq : pt_Q p v0 r0 m n), pt_T (pt_WM p v0 r0) (fX1_init l0 l1 m) (fX1_init l0' l1' n) := by
  intro l0 l0' hl0 l1 l1' hl1 m n hq
  obtain ⟨rfl, dl0⟩ := hl0
  obtain ⟨rfl, dl1⟩ := hl1
  unfold fX1_init
  exact (pt_ck (pt_nzr (pt_rf dl0)) fun _ => (pt_al hq rfl rfl fun a94 m95 n96 d_a94 hc97 hq98 => (pt_ck (pt_kc hq98 (pt_rf dl0)) fun hc99 => (pt_letk rfl (pt_sR hq98 (pt_rf dl0) (pt_rf d_a94)) fun m100 n101 em102 hq103 => (pt_al hq103 rfl rfl fun a104 m105 n106 d_a104 hc107 hq108 => (pt_ck (pt_kc hq108 (pt_rf dl0)) fun hc109 => (pt_letk rfl (pt_sR hq108 (pt_rf dl0) (pt_rf d_a104)) fun m110 n111 em112 hq113 => (pt_letk rfl (pt_sI hq113 (pt_rf dl0) rfl) fun m114 n115 em116 hq117 => (pt_letk rfl (pt_sR hq117 (pt_rf dl0) (pt_rf dl1)) fun m118 n119 em120 hq121 => (pt_retM hq121))))))))))
theorem zX1_readFigure_43 {p : Nat → Nat} {v0 r0 : ml_M} : ∀ (l0 l0' : Nat) (hl0 : pt_r p l0 l0') (m n : ml_M) (hq : pt_Q p v0 r0 m n), pt_T (pt_WV p v0 r0) (fX1_readFigure_43 l0 m) (fX1_readFigure_43 l0' n) := by
  intro l0 l0' hl0 m n hq
  obtain ⟨rfl, dl0⟩ := hl0
  unfold fX1_readFigure_43
  exact (pt_ck (pt_kc hq (pt_rf dl0)) fun hc122 => (pt_letk rfl (pt_sI hq (pt_rf dl0) (pt_I hq (pt_rf dl0) hc122)) fun m123 n124 em125 hq126 => (pt_retV rfl hq126)))
theorem zX1_readFigure {p : Nat → Nat} {v0 r0 : ml_M} : ∀ (l0 l0' : Nat) (hl0 : pt_r p l0 l0') (l1 l1' : Int32) (hl1 : l1 = l1') (l2 l2' : Int32) (hl2 : l2 = l2') (m n : ml_M) (hq : pt_Q p v0 r0 m n), pt_T (pt_WV p v0 r0) (fX1_readFigure l0 l1 l2 m) (fX1_readFigure l0' l1' l2' n) := by
  intro l0 l0' hl0 l1 l1' hl1 l2 l2' hl2 m n hq
  obtain ⟨rfl, dl0⟩ := hl0
  subst hl1
  subst hl2
  unfold fX1_readFigure
  exact (pt_ck (pt_kc hq (pt_rf dl0)) fun hc127 => (pt_ite (pt_e2 (fun (a b : Int32) => a = b) (pt_I hq (pt_rf dl0) hc127) rfl) (fun _ => (pt_letr (pt_R hq (pt_rf dl0) hc127) fun a128 d_a128 => (pt_ck (pt_kc hq (pt_rf d_a128)) fun hc129 => (pt_ite (pt_e2 (fun (a b : Int32) => b ≤ a) (pt_I hq (pt_rf dl0) hc127) (pt_len hq (pt_rf d_a128))) (fun _ => (zX1_readFigure_43   _ _ (pt_rf dl0) _ _ hq)) (fun _ => (pt_letr (pt_R hq (pt_rf dl0) hc127) fun a130 d_a130 => (pt_ck (pt_in hq (pt_rf d_a130) (pt_I hq (pt_rf dl0) hc127)) fun hi131 => (pt_b1 (zX10_within _ _ (pt_e2 (fun (a b : Int32) => a - b) (pt_Ia hq (pt_rf d_a130) hi131.1 (pt_I hq (pt_rf dl0) hc127)) rfl) _ _ rfl _ _ rfl _ _ hq) fun r132 => (pt_ite rfl (fun _ => (zX1_readFigure_43   _ _ (pt_rf dl0) _ _ hq)) (fun _ => (pt_letr (pt_R hq (pt_rf dl0) hc127) fun a133 d_a133 => (pt_ck (pt_in hq (pt_rf d_a133) (pt_I hq (pt_rf dl0) hc127)) fun hi134 => (pt_leti (pt_e2 (fun (a b : Int32) => a - b) (pt_Ia hq (pt_rf d_a133) hi134.1 (pt_I hq (pt_rf dl0) hc127)) rfl) fun x135 => (pt_letk rfl (pt_sI hq (pt_rf dl0) (pt_e2 (fun (a b : Int32) => a + b) (pt_I hq (pt_rf dl0) hc127) rfl)) fun m136 n137 em138 hq139 => (pt_retV rfl hq139))))))))))))))) (fun _ => (pt_retV rfl hq))))
theorem zX1_readYear_53 {p : Nat → Nat} {v0 r0 : ml_M} : ∀ (l0 l0' : Nat) (hl0 : pt_r p l0 l0') (l1 l1' : Int32) (hl1 : l1 = l1') (t0 t0' : Int32) (ht0 : t0 = t0') (m n : ml_M) (hq : pt_Q p v0 r0 m n), pt_T (pt_WV p v0 r0) (fX1_readYear_53 l0 l1 t0 m) (fX1_readYear_53 l0' l1' t0' n) := by
  intro l0 l0' hl0 l1 l1' hl1 t0 t0' ht0 m n hq
  obtain ⟨rfl, dl0⟩ := hl0
  subst hl1
  subst ht0
  unfold fX1_readYear_53
  exact (pt_ite rfl (fun _ => (pt_retV rfl hq)) (fun _ => (pt_ck (pt_kc hq (pt_rf dl0)) fun hc140 => (pt_b2 (zX1_readFigure _ _ (pt_rf dl0) _ _ rfl _ _ rfl _ _ hq) fun r141 m142 n143 hq144 => (pt_retV rfl hq144)))))
theorem zX1_readYear_52 {p : Nat → Nat} {v0 r0 : ml_M} : ∀ (l0 l0' : Nat) (hl0 : pt_r p l0 l0') (l1 l1' : Int32) (hl1 : l1 = l1') (m n : ml_M) (hq : pt_Q p v0 r0 m n), pt_T (pt_WV p v0 r0) (fX1_readYear_52 l0 l1 m) (fX1_readYear_52 l0' l1' n) := by
  intro l0 l0' hl0 l1 l1' hl1 m n hq
  obtain ⟨rfl, dl0⟩ := hl0
  subst hl1
  unfold fX1_readYear_52
  exact (zX1_readYear_53   _ _ (pt_rf dl0) _ _ rfl _ _ rfl _ _ hq)
theorem zX1_readYear {p : Nat → Nat} {v0 r0 : ml_M} : ∀ (l0 l0' : Nat) (hl0 : pt_r p l0 l0') (m n : ml_M) (hq : pt_Q p v0 r0 m n), pt_T (pt_WV p v0 r0) (fX1_readYear l0 m) (fX1_readYear l0' n) := by
  intro l0 l0' hl0 m n hq
  obtain ⟨rfl, dl0⟩ := hl0
  unfold fX1_readYear
  exact (pt_ck (pt_kc hq (pt_rf dl0)) fun hc145 => (pt_b2 (zX1_readFigure _ _ (pt_rf dl0) _ _ rfl _ _ rfl _ _ hq) fun r146 m147 n148 hq149 => (pt_ck (pt_kc hq149 (pt_rf dl0)) fun hc150 => (pt_ite (pt_e2 (fun (a b : Int32) => a = b) (pt_I hq149 (pt_rf dl0) hc150) rfl) (fun _ => (pt_letr (pt_R hq149 (pt_rf dl0) hc150) fun a151 d_a151 => (pt_ck (pt_kc hq149 (pt_rf d_a151)) fun hc152 => (pt_ite (pt_e2 (fun (a b : Int32) => b ≤ a) (pt_I hq149 (pt_rf dl0) hc150) (pt_len hq149 (pt_rf d_a151))) (fun _ => (zX1_readYear_52   _ _ (pt_rf dl0) _ _ rfl _ _ hq149)) (fun _ => (pt_letr (pt_R hq149 (pt_rf dl0) hc150) fun a153 d_a153 => (pt_ck (pt_in hq149 (pt_rf d_a153) (pt_I hq149 (pt_rf dl0) hc150)) fun hi154 => (pt_b1 (zX10_within _ _ (pt_Ia hq149 (pt_rf d_a153) hi154.1 (pt_I hq149 (pt_rf dl0) hc150)) _ _ rfl _ _ rfl _ _ hq149) fun r155 => (pt_ite rfl (fun _ => (zX1_readYear_52   _ _ (pt_rf dl0) _ _ rfl _ _ hq149)) (fun _ => (zX1_readYear_53   _ _ (pt_rf dl0) _ _ rfl _ _ rfl _ _ hq149))))))))))) (fun _ => (zX1_readYear_52   _ _ (pt_rf dl0) _ _ rfl _ _ hq149))))))
theorem zX1_readSign_48 {p : Nat → Nat} {v0 r0 : ml_M} : ∀ (l0 l0' : Nat) (hl0 : pt_r p l0 l0') (m n : ml_M) (hq : pt_Q p v0 r0 m n), pt_T (pt_WM p v0 r0) (fX1_readSign_48 l0 m) (fX1_readSign_48 l0' n) := by
  intro l0 l0' hl0 m n hq
  obtain ⟨rfl, dl0⟩ := hl0
  unfold fX1_readSign_48
  exact (pt_ck (pt_kc hq (pt_rf dl0)) fun hc156 => (pt_letk rfl (pt_sI hq (pt_rf dl0) (pt_I hq (pt_rf dl0) hc156)) fun m157 n158 em159 hq160 => (pt_retM hq160)))
theorem zX1_readSign {p : Nat → Nat} {v0 r0 : ml_M} : ∀ (l0 l0' : Nat) (hl0 : pt_r p l0 l0') (l1 l1' : Int32) (hl1 : l1 = l1') (m n : ml_M) (hq : pt_Q p v0 r0 m n), pt_T (pt_WM p v0 r0) (fX1_readSign l0 l1 m) (fX1_readSign l0' l1' n) := by
  intro l0 l0' hl0 l1 l1' hl1 m n hq
  obtain ⟨rfl, dl0⟩ := hl0
  subst hl1
  unfold fX1_readSign
  exact (pt_ck (pt_kc hq (pt_rf dl0)) fun hc161 => (pt_ite (pt_e2 (fun (a b : Int32) => a = b) (pt_I hq (pt_rf dl0) hc161) rfl) (fun _ => (pt_letr (pt_R hq (pt_rf dl0) hc161) fun a162 d_a162 => (pt_ck (pt_kc hq (pt_rf d_a162)) fun hc163 => (pt_ite (pt_e2 (fun (a b : Int32) => b ≤ a) (pt_I hq (pt_rf dl0) hc161) (pt_len hq (pt_rf d_a162))) (fun _ => (zX1_readSign_48   _ _ (pt_rf dl0) _ _ hq)) (fun _ => (pt_letr (pt_R hq (pt_rf dl0) hc161) fun a164 d_a164 => (pt_ck (pt_in hq (pt_rf d_a164) (pt_I hq (pt_rf dl0) hc161)) fun hi165 => (pt_ite (pt_e2 (fun (a b : Int32) => a = b) (pt_Ia hq (pt_rf d_a164) hi165.1 (pt_I hq (pt_rf dl0) hc161)) rfl) (fun _ => (pt_letk rfl (pt_sI hq (pt_rf dl0) (pt_e2 (fun (a b : Int32) => a + b) (pt_I hq (pt_rf dl0) hc161) rfl)) fun m166 n167 em168 hq169 => (pt_retM hq169))) (fun _ => (zX1_readSign_48   _ _ (pt_rf dl0) _ _ hq)))))))))) (fun _ => (pt_retM hq))))
theorem zX6_init {p : Nat → Nat} {v0 r0 : ml_M} : ∀ (l0 l0' : Nat) (hl0 : pt_r p l0 l0') (l1 l1' : Int32) (hl1 : l1 = l1') (l2 l2' : Int32) (hl2 : l2 = l2') (l3 l3' : Int32) (hl3 : l3 = l3') (l4 l4' : Int32) (hl4 : l4 = l4') (l5 l5' : Int32) (hl5 : l5 = l5') (m n : ml_M) (hq : pt_Q p v0 r0 m n), pt_T (pt_WM p v0 r0) (fX6_init l0 l1 l2 l3 l4 l5 m) (fX6_init l0' l1' l2' l3' l4' l5' n) := by
  intro l0 l0' hl0 l1 l1' hl1 l2 l2' hl2 l3 l3' hl3 l4 l4' hl4 l5 l5' hl5 m n hq
  obtain ⟨rfl, dl0⟩ := hl0
  subst hl1
  subst hl2
  subst hl3
  subst hl4
  subst hl5
  unfold fX6_init
  exact (pt_ck (pt_nzr (pt_rf dl0)) fun _ => (pt_ck (pt_kc hq (pt_rf dl0)) fun hc170 => (pt_letk rfl (pt_sI hq (pt_rf dl0) rfl) fun m171 n172 em173 hq174 => (pt_letk rfl (pt_sI hq174 (pt_rf dl0) rfl) fun m175 n176 em177 hq178 => (pt_letk rfl (pt_sI hq178 (pt_rf dl0) rfl) fun m179 n180 em181 hq182 => (pt_letk rfl (pt_sI hq182 (pt_rf dl0) rfl) fun m183 n184 em185 hq186 => (pt_letk rfl (pt_sI hq186 (pt_rf dl0) rfl) fun m187 n188 em189 hq190 => (pt_retM hq190))))))))
theorem zX1_readLodger_48 {p : Nat → Nat} {v0 r0 : ml_M} : ∀ (l0 l0' : Nat) (hl0 : pt_r p l0 l0') (l1 l1' : Int32) (hl1 : l1 = l1') (l2 l2' : Int32) (hl2 : l2 = l2') (m n : ml_M) (hq : pt_Q p v0 r0 m n), pt_T (pt_WM p v0 r0) (fX1_readLodger_48 l0 l1 l2 m) (fX1_readLodger_48 l0' l1' l2' n) := by
  intro l0 l0' hl0 l1 l1' hl1 l2 l2' hl2 m n hq
  obtain ⟨rfl, dl0⟩ := hl0
  subst hl1
  subst hl2
  unfold fX1_readLodger_48
  exact (pt_ck (pt_kc hq (pt_rf dl0)) fun hc191 => (pt_b1m (zX1_readSign _ _ (pt_rf dl0) _ _ rfl _ _ hq) fun m192 n193 hq194 => (pt_ck (pt_kc hq194 (pt_rf dl0)) fun hc195 => (pt_b2 (zX1_readFigure _ _ (pt_rf dl0) _ _ rfl _ _ rfl _ _ hq194) fun r196 m197 n198 hq199 => (pt_ck (pt_kc hq199 (pt_rf dl0)) fun hc200 => (pt_b1m (zX1_readSign _ _ (pt_rf dl0) _ _ rfl _ _ hq199) fun m201 n202 hq203 => (pt_ck (pt_kc hq203 (pt_rf dl0)) fun hc204 => (pt_b2 (zX1_readFigure _ _ (pt_rf dl0) _ _ rfl _ _ rfl _ _ hq203) fun r205 m206 n207 hq208 => (pt_ck (pt_kc hq208 (pt_rf dl0)) fun hc209 => (pt_b1m (zX1_readSign _ _ (pt_rf dl0) _ _ rfl _ _ hq208) fun m210 n211 hq212 => (pt_ck (pt_kc hq212 (pt_rf dl0)) fun hc213 => (pt_b2 (zX1_readFigure _ _ (pt_rf dl0) _ _ rfl _ _ rfl _ _ hq212) fun r214 m215 n216 hq217 => (pt_ck (pt_kc hq217 (pt_rf dl0)) fun hc218 => (pt_ite (pt_e2 (fun (a b : Int32) => a = b) (pt_I hq217 (pt_rf dl0) hc218) rfl) (fun _ => (pt_letr (pt_R hq217 (pt_rf dl0) hc218) fun a219 d_a219 => (pt_al hq217 rfl rfl fun a220 m221 n222 d_a220 hc223 hq224 => (pt_b1m (zX6_init _ _ (pt_rf d_a220) _ _ rfl _ _ rfl _ _ rfl _ _ rfl _ _ rfl _ _ hq224) fun m225 n226 hq227 => (pt_ck (pt_kc hq227 (pt_rf d_a220)) fun hc229 => (pt_ck (pt_in hq227 (pt_rf d_a219) (pt_I hq217 (pt_rf dl0) hc218)) fun hi228 => (pt_letk rfl (pt_sRa hq227 (pt_rf d_a219) (pt_I hq217 (pt_rf dl0) hc218) (pt_rf d_a220)) fun m230 n231 em232 hq233 => (pt_ck (pt_kc hq233 (pt_rf dl0)) fun hc234 => (pt_letk rfl (pt_sI hq233 (pt_rf dl0) (pt_e2 (fun (a b : Int32) => a + b) (pt_I hq233 (pt_rf dl0) hc234) rfl)) fun m235 n236 em237 hq238 => (pt_retM hq238)))))))))) (fun _ => (pt_retM hq217))))))))))))))))
theorem zX1_readLodger {p : Nat → Nat} {v0 r0 : ml_M} : ∀ (l0 l0' : Nat) (hl0 : pt_r p l0 l0') (m n : ml_M) (hq : pt_Q p v0 r0 m n), pt_T (pt_WM p v0 r0) (fX1_readLodger l0 m) (fX1_readLodger l0' n) := by
  intro l0 l0' hl0 m n hq
  obtain ⟨rfl, dl0⟩ := hl0
  unfold fX1_readLodger
  exact (pt_ck (pt_kc hq (pt_rf dl0)) fun hc239 => (pt_letk rfl (pt_sI hq (pt_rf dl0) (pt_e2 (fun (a b : Int32) => a + b) (pt_I hq (pt_rf dl0) hc239) rfl)) fun m240 n241 em242 hq243 => (pt_b2 (zX1_readYear _ _ (pt_rf dl0) _ _ hq243) fun r244 m245 n246 hq247 => (pt_ck (pt_kc hq247 (pt_rf dl0)) fun hc248 => (pt_b1m (zX1_readSign _ _ (pt_rf dl0) _ _ rfl _ _ hq247) fun m249 n250 hq251 => (pt_ck (pt_kc hq251 (pt_rf dl0)) fun hc252 => (pt_b2 (zX1_readYear _ _ (pt_rf dl0) _ _ hq251) fun r253 m254 n255 hq256 => (pt_ck (pt_kc hq256 (pt_rf dl0)) fun hc257 => (pt_ite (pt_e2 (fun (a b : Int32) => a = b) (pt_I hq256 (pt_rf dl0) hc257) rfl) (fun _ => (pt_ite rfl (fun _ => (zX1_readLodger_48   _ _ (pt_rf dl0) _ _ rfl _ _ rfl _ _ hq256)) (fun _ => (pt_letk rfl (pt_sI hq256 (pt_rf dl0) (pt_I hq256 (pt_rf dl0) hc257)) fun m258 n259 em260 hq261 => (zX1_readLodger_48   _ _ (pt_rf dl0) _ _ rfl _ _ rfl _ _ hq261))))) (fun _ => (zX1_readLodger_48   _ _ (pt_rf dl0) _ _ rfl _ _ rfl _ _ hq256)))))))))))
theorem zX9_init {p : Nat → Nat} {v0 r0 : ml_M} : ∀ (l0 l0' : Nat) (hl0 : pt_r p l0 l0') (l1 l1' : Int32) (hl1 : l1 = l1') (l2 l2' : Int32) (hl2 : l2 = l2') (m n : ml_M) (hq : pt_Q p v0 r0 m n), pt_T (pt_WM p v0 r0) (fX9_init l0 l1 l2 m) (fX9_init l0' l1' l2' n) := by
  intro l0 l0' hl0 l1 l1' hl1 l2 l2' hl2 m n hq
  obtain ⟨rfl, dl0⟩ := hl0
  subst hl1
  subst hl2
  unfold fX9_init
  exact (pt_ck (pt_nzr (pt_rf dl0)) fun _ => (pt_ck (pt_kc hq (pt_rf dl0)) fun hc262 => (pt_letk rfl (pt_sI hq (pt_rf dl0) rfl) fun m263 n264 em265 hq266 => (pt_letk rfl (pt_sI hq266 (pt_rf dl0) rfl) fun m267 n268 em269 hq270 => (pt_retM hq270)))))
theorem zX1_readTrunk_37 {p : Nat → Nat} {v0 r0 : ml_M} : ∀ (l0 l0' : Nat) (hl0 : pt_r p l0 l0') (l1 l1' : Int32) (hl1 : l1 = l1') (m n : ml_M) (hq : pt_Q p v0 r0 m n), pt_T (pt_WM p v0 r0) (fX1_readTrunk_37 l0 l1 m) (fX1_readTrunk_37 l0' l1' n) := by
  intro l0 l0' hl0 l1 l1' hl1 m n hq
  obtain ⟨rfl, dl0⟩ := hl0
  subst hl1
  unfold fX1_readTrunk_37
  exact (pt_ck (pt_kc hq (pt_rf dl0)) fun hc271 => (pt_b1m (zX1_readSign _ _ (pt_rf dl0) _ _ rfl _ _ hq) fun m272 n273 hq274 => (pt_ck (pt_kc hq274 (pt_rf dl0)) fun hc275 => (pt_b2 (zX1_readFigure _ _ (pt_rf dl0) _ _ rfl _ _ rfl _ _ hq274) fun r276 m277 n278 hq279 => (pt_ck (pt_kc hq279 (pt_rf dl0)) fun hc280 => (pt_ite (pt_e2 (fun (a b : Int32) => a = b) (pt_I hq279 (pt_rf dl0) hc280) rfl) (fun _ => (pt_letr (pt_R hq279 (pt_rf dl0) hc280) fun a281 d_a281 => (pt_al hq279 rfl rfl fun a282 m283 n284 d_a282 hc285 hq286 => (pt_b1m (zX9_init _ _ (pt_rf d_a282) _ _ rfl _ _ rfl _ _ hq286) fun m287 n288 hq289 => (pt_ck (pt_kc hq289 (pt_rf d_a282)) fun hc291 => (pt_ck (pt_in hq289 (pt_rf d_a281) (pt_I hq279 (pt_rf dl0) hc280)) fun hi290 => (pt_letk rfl (pt_sRa hq289 (pt_rf d_a281) (pt_I hq279 (pt_rf dl0) hc280) (pt_rf d_a282)) fun m292 n293 em294 hq295 => (pt_ck (pt_kc hq295 (pt_rf dl0)) fun hc296 => (pt_letk rfl (pt_sI hq295 (pt_rf dl0) (pt_e2 (fun (a b : Int32) => a + b) (pt_I hq295 (pt_rf dl0) hc296) rfl)) fun m297 n298 em299 hq300 => (pt_retM hq300)))))))))) (fun _ => (pt_retM hq279))))))))
theorem zX1_readTrunk_14 {p : Nat → Nat} {v0 r0 : ml_M} : ∀ (fu : Nat) (l0 l0' : Nat) (hl0 : pt_r p l0 l0') (l1 l1' : Int32) (hl1 : l1 = l1') (l2 l2' : Int32) (hl2 : l2 = l2') (m n : ml_M) (hq : pt_Q p v0 r0 m n), pt_T (pt_WM p v0 r0) (fX1_readTrunk_14 fu l0 l1 l2 m) (fX1_readTrunk_14 fu l0' l1' l2' n) := by
  intro fu
  induction fu with
  | zero => intro l0 l0' hl0 l1 l1' hl1 l2 l2' hl2 m n hq; exact pt_none
  | succ fu ih =>
  intro l0 l0' hl0 l1 l1' hl1 l2 l2' hl2 m n hq
  obtain ⟨rfl, dl0⟩ := hl0
  subst hl1
  subst hl2
  have hk14 := ih
  unfold fX1_readTrunk_14
  exact (pt_ite rfl (fun _ => (zX1_readTrunk_37   _ _ (pt_rf dl0) _ _ rfl _ _ hq)) (fun _ => (pt_ck (pt_kc hq (pt_rf dl0)) fun hc301 => (pt_b2 (zX1_readFigure _ _ (pt_rf dl0) _ _ rfl _ _ rfl _ _ hq) fun r302 m303 n304 hq305 => (pt_leti rfl fun x306 => (hk14 _ _ (pt_rf dl0) _ _ rfl _ _ rfl _ _ hq305))))))
theorem zX1_readTrunk {p : Nat → Nat} {v0 r0 : ml_M} : ∀ (l0 l0' : Nat) (hl0 : pt_r p l0 l0') (m n : ml_M) (hq : pt_Q p v0 r0 m n), pt_T (pt_WM p v0 r0) (fX1_readTrunk l0 m) (fX1_readTrunk l0' n) := by
  intro l0 l0' hl0 m n hq
  obtain ⟨rfl, dl0⟩ := hl0
  unfold fX1_readTrunk
  exact (pt_ck (pt_kc hq (pt_rf dl0)) fun hc307 => (pt_letk rfl (pt_sI hq (pt_rf dl0) (pt_e2 (fun (a b : Int32) => a + b) (pt_I hq (pt_rf dl0) hc307) rfl)) fun m308 n309 em310 hq311 => (zX1_readTrunk_14  ml_fu _ _ (pt_rf dl0) _ _ rfl _ _ rfl _ _ hq311)))
theorem zX1_readStanding_64 {p : Nat → Nat} {v0 r0 : ml_M} : ∀ (l0 l0' : Nat) (hl0 : pt_r p l0 l0') (l1 l1' : Int32) (hl1 : l1 = l1') (l3 l3' : Int32) (hl3 : l3 = l3') (m n : ml_M) (hq : pt_Q p v0 r0 m n), pt_T (pt_WM p v0 r0) (fX1_readStanding_64 l0 l1 l3 m) (fX1_readStanding_64 l0' l1' l3' n) := by
  intro l0 l0' hl0 l1 l1' hl1 l3 l3' hl3 m n hq
  obtain ⟨rfl, dl0⟩ := hl0
  subst hl1
  subst hl3
  unfold fX1_readStanding_64
  exact (pt_ck (pt_kc hq (pt_rf dl0)) fun hc312 => (pt_ite (pt_e2 (fun (a b : Int32) => a = b) (pt_I hq (pt_rf dl0) hc312) rfl) (fun _ => (pt_letk rfl (pt_sI hq (pt_rf dl0) (pt_e2 (fun (a b : Int32) => a + b) (pt_I hq (pt_rf dl0) hc312) rfl)) fun m313 n314 em315 hq316 => (pt_letr (pt_R hq316 (pt_rf dl0) (ml_kk em315 hc312)) fun a317 d_a317 => (pt_ck (pt_in hq316 (pt_rf d_a317) rfl) fun hi318 => pt_letr (pt_Ra hq316 (pt_rf d_a317) hi318.1 rfl) fun a319 d_a319 => (pt_ck (pt_kc hq316 (pt_rf d_a319)) fun hc320 => (pt_letk rfl (pt_sI hq316 (pt_rf d_a319) (pt_e2 (fun (a b : Int32) => a ||| b) (pt_I hq316 (pt_rf d_a319) hc320) rfl)) fun m321 n322 em323 hq324 => (pt_letr (pt_R hq324 (pt_rf dl0) (ml_kk em323 (ml_kk em315 hc312))) fun a325 d_a325 => (pt_ck (pt_in hq324 (pt_rf d_a325) rfl) fun hi326 => pt_letr (pt_Ra hq324 (pt_rf d_a325) hi326.1 rfl) fun a327 d_a327 => (pt_ck (pt_kc hq324 (pt_rf d_a327)) fun hc328 => (pt_letk rfl (pt_sI hq324 (pt_rf d_a327) (pt_e2 (fun (a b : Int32) => a ||| b) (pt_I hq324 (pt_rf d_a327) hc328) rfl)) fun m329 n330 em331 hq332 => (pt_retM hq332))))))))))) (fun _ => (pt_retM hq))))
theorem zX1_readStanding {p : Nat → Nat} {v0 r0 : ml_M} : ∀ (l0 l0' : Nat) (hl0 : pt_r p l0 l0') (m n : ml_M) (hq : pt_Q p v0 r0 m n), pt_T (pt_WM p v0 r0) (fX1_readStanding l0 m) (fX1_readStanding l0' n) := by
  intro l0 l0' hl0 m n hq
  obtain ⟨rfl, dl0⟩ := hl0
  unfold fX1_readStanding
  exact (pt_ck (pt_kc hq (pt_rf dl0)) fun hc333 => (pt_letk rfl (pt_sI hq (pt_rf dl0) (pt_e2 (fun (a b : Int32) => a + b) (pt_I hq (pt_rf dl0) hc333) rfl)) fun m334 n335 em336 hq337 => (pt_b2 (zX1_readFigure _ _ (pt_rf dl0) _ _ rfl _ _ (pt_e2 (fun (a b : Int32) => a - b) (pt_I hq337 (pt_rf dl0) (ml_kk em336 hc333)) rfl) _ _ hq337) fun r338 m339 n340 hq341 => (pt_ck (pt_kc hq341 (pt_rf dl0)) fun hc342 => (pt_b1m (zX1_readSign _ _ (pt_rf dl0) _ _ rfl _ _ hq341) fun m343 n344 hq345 => (pt_ck (pt_kc hq345 (pt_rf dl0)) fun hc346 => (pt_leti (pt_I hq345 (pt_rf dl0) hc346) fun x347 => (pt_b2 (zX1_readFigure _ _ (pt_rf dl0) _ _ rfl _ _ (pt_e2 (fun (a b : Int32) => a - b) (pt_I hq345 (pt_rf dl0) hc346) rfl) _ _ hq345) fun r348 m349 n350 hq351 => (pt_ck (pt_kc hq351 (pt_rf dl0)) fun hc352 => (pt_ite (pt_e2 (fun (a b : Int32) => a = b) (pt_I hq351 (pt_rf dl0) hc352) rfl) (fun _ => (pt_ite rfl (fun _ => (pt_letk rfl (pt_sI hq351 (pt_rf dl0) rfl) fun m353 n354 em355 hq356 => (zX1_readStanding_64   _ _ (pt_rf dl0) _ _ rfl _ _ rfl _ _ hq356))) (fun _ => (zX1_readStanding_64   _ _ (pt_rf dl0) _ _ rfl _ _ rfl _ _ hq351)))) (fun _ => (zX1_readStanding_64   _ _ (pt_rf dl0) _ _ rfl _ _ rfl _ _ hq351))))))))))))
theorem zX1_readItem_85 {p : Nat → Nat} {v0 r0 : ml_M} : ∀ (l0 l0' : Nat) (hl0 : pt_r p l0 l0') (m n : ml_M) (hq : pt_Q p v0 r0 m n), pt_T (pt_WM p v0 r0) (fX1_readItem_85 l0 m) (fX1_readItem_85 l0' n) := by
  intro l0 l0' hl0 m n hq
  obtain ⟨rfl, dl0⟩ := hl0
  unfold fX1_readItem_85
  exact (pt_ck (pt_kc hq (pt_rf dl0)) fun hc357 => (pt_letk rfl (pt_sI hq (pt_rf dl0) (pt_I hq (pt_rf dl0) hc357)) fun m358 n359 em360 hq361 => (pt_retM hq361)))
theorem zX1_readItem_63 {p : Nat → Nat} {v0 r0 : ml_M} : ∀ (l0 l0' : Nat) (hl0 : pt_r p l0 l0') (l1 l1' : Int32) (hl1 : l1 = l1') (m n : ml_M) (hq : pt_Q p v0 r0 m n), pt_T (pt_WM p v0 r0) (fX1_readItem_63 l0 l1 m) (fX1_readItem_63 l0' l1' n) := by
  intro l0 l0' hl0 l1 l1' hl1 m n hq
  obtain ⟨rfl, dl0⟩ := hl0
  subst hl1
  unfold fX1_readItem_63
  exact (pt_ite rfl (fun _ => (pt_ck (pt_kc hq (pt_rf dl0)) fun hc362 => (pt_ite (pt_e2 (fun (a b : Int32) => b ≤ a) (pt_I hq (pt_rf dl0) hc362) rfl) (fun _ => (zX1_readItem_85   _ _ (pt_rf dl0) _ _ hq)) (fun _ => (pt_b1m (zX1_readStanding _ _ (pt_rf dl0) _ _ hq) fun m363 n364 hq365 => (pt_retM hq365)))))) (fun _ => (zX1_readItem_85   _ _ (pt_rf dl0) _ _ hq)))
theorem zX1_readItem_41 {p : Nat → Nat} {v0 r0 : ml_M} : ∀ (l0 l0' : Nat) (hl0 : pt_r p l0 l0') (l1 l1' : Int32) (hl1 : l1 = l1') (m n : ml_M) (hq : pt_Q p v0 r0 m n), pt_T (pt_WM p v0 r0) (fX1_readItem_41 l0 l1 m) (fX1_readItem_41 l0' l1' n) := by
  intro l0 l0' hl0 l1 l1' hl1 m n hq
  obtain ⟨rfl, dl0⟩ := hl0
  subst hl1
  unfold fX1_readItem_41
  exact (pt_ite rfl (fun _ => (pt_ck (pt_kc hq (pt_rf dl0)) fun hc366 => (pt_ite (pt_e2 (fun (a b : Int32) => b ≤ a) (pt_I hq (pt_rf dl0) hc366) rfl) (fun _ => (zX1_readItem_63   _ _ (pt_rf dl0) _ _ rfl _ _ hq)) (fun _ => (pt_b1m (zX1_readTrunk _ _ (pt_rf dl0) _ _ hq) fun m367 n368 hq369 => (pt_retM hq369)))))) (fun _ => (zX1_readItem_63   _ _ (pt_rf dl0) _ _ rfl _ _ hq)))
theorem zX1_readItem {p : Nat → Nat} {v0 r0 : ml_M} : ∀ (l0 l0' : Nat) (hl0 : pt_r p l0 l0') (l1 l1' : Int32) (hl1 : l1 = l1') (m n : ml_M) (hq : pt_Q p v0 r0 m n), pt_T (pt_WM p v0 r0) (fX1_readItem l0 l1 m) (fX1_readItem l0' l1' n) := by
  intro l0 l0' hl0 l1 l1' hl1 m n hq
  obtain ⟨rfl, dl0⟩ := hl0
  subst hl1
  unfold fX1_readItem
  exact (pt_ite rfl (fun _ => (pt_ck (pt_kc hq (pt_rf dl0)) fun hc374 => (pt_letk rfl (pt_sI hq (pt_rf dl0) (pt_e2 (fun (a b : Int32) => a + b) (pt_I hq (pt_rf dl0) hc374) rfl)) fun m375 n376 em377 hq378 => (pt_retM hq378)))) (fun _ => (pt_ite rfl (fun _ => (pt_ck (pt_kc hq (pt_rf dl0)) fun hc370 => (pt_ite (pt_e2 (fun (a b : Int32) => b ≤ a) (pt_I hq (pt_rf dl0) hc370) rfl) (fun _ => (zX1_readItem_41   _ _ (pt_rf dl0) _ _ rfl _ _ hq)) (fun _ => (pt_b1m (zX1_readLodger _ _ (pt_rf dl0) _ _ hq) fun m371 n372 hq373 => (pt_retM hq373)))))) (fun _ => (zX1_readItem_41   _ _ (pt_rf dl0) _ _ rfl _ _ hq)))))
theorem zX1_read_45 {p : Nat → Nat} {v0 r0 : ml_M} {k2 k2' : Nat → Int32 → ml_M → Option ml_M} (hk2 : ∀ (l0 l0' : Nat) (hl0 : pt_r p l0 l0') (l1 l1' : Int32) (hl1 : l1 = l1') (m n : ml_M) (hq : pt_Q p v0 r0 m n), pt_T (pt_WM p v0 r0) (k2 l0 l1 m) (k2' l0' l1' n)) : ∀ (l0 l0' : Nat) (hl0 : pt_r p l0 l0') (l1 l1' : Int32) (hl1 : l1 = l1') (m n : ml_M) (hq : pt_Q p v0 r0 m n), pt_T (pt_WM p v0 r0) (fX1_read_45 k2 l0 l1 m) (fX1_read_45 k2' l0' l1' n) := by
  intro l0 l0' hl0 l1 l1' hl1 m n hq
  obtain ⟨rfl, dl0⟩ := hl0
  subst hl1
  unfold fX1_read_45
  exact (hk2 _ _ (pt_rf dl0) _ _ rfl _ _ hq)
theorem zX1_read_2 {p : Nat → Nat} {v0 r0 : ml_M} : ∀ (fu : Nat) (l0 l0' : Nat) (hl0 : pt_r p l0 l0') (l1 l1' : Int32) (hl1 : l1 = l1') (m n : ml_M) (hq : pt_Q p v0 r0 m n), pt_T (pt_WM p v0 r0) (fX1_read_2 fu l0 l1 m) (fX1_read_2 fu l0' l1' n) := by
  intro fu
  induction fu with
  | zero => intro l0 l0' hl0 l1 l1' hl1 m n hq; exact pt_none
  | succ fu ih =>
  intro l0 l0' hl0 l1 l1' hl1 m n hq
  obtain ⟨rfl, dl0⟩ := hl0
  subst hl1
  have hk2 := ih
  unfold fX1_read_2
  exact (pt_ck (pt_kc hq (pt_rf dl0)) fun hc379 => (pt_letr (pt_R hq (pt_rf dl0) hc379) fun a380 d_a380 => (pt_ck (pt_kc hq (pt_rf d_a380)) fun hc381 => (pt_ite (pt_e2 (fun (a b : Int32) => b ≤ a) rfl (pt_len hq (pt_rf d_a380))) (fun _ => (pt_retM hq)) (fun _ => (pt_ite (pt_e2 (fun (a b : Int32) => a = b) (pt_I hq (pt_rf dl0) hc379) rfl) (fun _ => (pt_letr (pt_R hq (pt_rf dl0) hc379) fun a382 d_a382 => (pt_ck (pt_kc hq (pt_rf d_a382)) fun hc383 => (pt_ite (pt_e2 (fun (a b : Int32) => b ≤ a) (pt_I hq (pt_rf dl0) hc379) (pt_len hq (pt_rf d_a382))) (fun _ => (zX1_read_45 hk2  _ _ (pt_rf dl0) _ _ rfl _ _ hq)) (fun _ => (pt_letr (pt_R hq (pt_rf dl0) hc379) fun a384 d_a384 => (pt_ck (pt_in hq (pt_rf d_a384) (pt_I hq (pt_rf dl0) hc379)) fun hi385 => (pt_b1m (zX1_readItem _ _ (pt_rf dl0) _ _ (pt_Ia hq (pt_rf d_a384) hi385.1 (pt_I hq (pt_rf dl0) hc379)) _ _ hq) fun m386 n387 hq388 => (zX1_read_45 hk2  _ _ (pt_rf dl0) _ _ rfl _ _ hq388))))))))) (fun _ => (zX1_read_45 hk2  _ _ (pt_rf dl0) _ _ rfl _ _ hq))))))))
theorem zX1_read {p : Nat → Nat} {v0 r0 : ml_M} : ∀ (l0 l0' : Nat) (hl0 : pt_r p l0 l0') (m n : ml_M) (hq : pt_Q p v0 r0 m n), pt_T (pt_WM p v0 r0) (fX1_read l0 m) (fX1_read l0' n) := by
  intro l0 l0' hl0 m n hq
  obtain ⟨rfl, dl0⟩ := hl0
  unfold fX1_read
  exact (zX1_read_2  ml_fu _ _ (pt_rf dl0) _ _ rfl _ _ hq)
theorem zX10_fault {p : Nat → Nat} {v0 r0 : ml_M} : ∀ (l0 l0' : Nat) (hl0 : pt_r p l0 l0') (l1 l1' : Int32) (hl1 : l1 = l1') (m n : ml_M) (hq : pt_Q p v0 r0 m n), pt_T (pt_WV p v0 r0) (fX10_fault l0 l1 m) (fX10_fault l0' l1' n) := by
  intro l0 l0' hl0 l1 l1' hl1 m n hq
  obtain ⟨rfl, dl0⟩ := hl0
  subst hl1
  unfold fX10_fault
  exact (pt_b1 (zX10_isText _ _ rfl _ _ hq) fun r389 => (pt_ite rfl (fun _ => (pt_retV rfl hq)) (fun _ => (pt_ck (pt_kc hq (pt_rf dl0)) fun hc390 => (pt_letr (pt_R hq (pt_rf dl0) hc390) fun a391 d_a391 => (pt_ck (pt_in hq (pt_rf d_a391) rfl) fun hi392 => pt_letr (pt_Ra hq (pt_rf d_a391) hi392.1 rfl) fun a393 d_a393 => (pt_ite (pt_nul hq.1 (pt_rf d_a393)) (fun _ => (pt_b2 (zX10_found _ _ (pt_rf dl0) _ _ rfl _ _ hq) fun r407 m408 n409 hq410 => (pt_retV rfl hq410))) (fun _ => (pt_al hq rfl rfl fun a394 m395 n396 d_a394 hc397 hq398 => (pt_b1m (zX1_init _ _ (pt_rf d_a394) _ _ (pt_rf d_a393) _ _ hq398) fun m399 n400 hq401 => (pt_ck (pt_kc hq401 (pt_rf d_a394)) fun hc402 => (pt_b1m (zX1_read _ _ (pt_rf d_a394) _ _ hq401) fun m403 n404 hq405 => (pt_ck (pt_kc hq405 (pt_rf d_a394)) fun hc406 => (pt_retV (pt_I hq405 (pt_rf d_a394) hc406) hq405))))))))))))))
theorem zX10_book {p : Nat → Nat} {v0 r0 : ml_M} : ∀ (l0 l0' : Nat) (hl0 : pt_r p l0 l0') (l1 l1' : Int32) (hl1 : l1 = l1') (m n : ml_M) (hq : pt_Q p v0 r0 m n), pt_T (pt_WV p v0 r0) (fX10_book l0 l1 m) (fX10_book l0' l1' n) := by
  intro l0 l0' hl0 l1 l1' hl1 m n hq
  obtain ⟨rfl, dl0⟩ := hl0
  subst hl1
  unfold fX10_book
  exact (pt_b1 (zX10_isText _ _ rfl _ _ hq) fun r411 => (pt_ite rfl (fun _ => (pt_retV rfl hq)) (fun _ => (pt_ck (pt_kc hq (pt_rf dl0)) fun hc412 => (pt_letr (pt_R hq (pt_rf dl0) hc412) fun a413 d_a413 => (pt_ck (pt_in hq (pt_rf d_a413) rfl) fun hi414 => pt_letr (pt_Ra hq (pt_rf d_a413) hi414.1 rfl) fun a415 d_a415 => (pt_ite (pt_nul hq.1 (pt_rf d_a415)) (fun _ => (pt_b2 (zX10_found _ _ (pt_rf dl0) _ _ rfl _ _ hq) fun r464 m465 n466 hq467 => (pt_retV rfl hq467))) (fun _ => (pt_al hq rfl rfl fun a416 m417 n418 d_a416 hc419 hq420 => (pt_b1m (zX1_init _ _ (pt_rf d_a416) _ _ (pt_rf d_a415) _ _ hq420) fun m421 n422 hq423 => (pt_ck (pt_kc hq423 (pt_rf d_a416)) fun hc424 => (pt_b1m (zX1_read _ _ (pt_rf d_a416) _ _ hq423) fun m425 n426 hq427 => (pt_ck (pt_kc hq427 (pt_rf d_a416)) fun hc428 => (pt_ite (pt_e2 (fun (a b : Int32) => a = b) (pt_I hq427 (pt_rf d_a416) hc428) rfl) (fun _ => (pt_ck (pt_kc hq427 (pt_rf dl0)) fun hc429 => (pt_letk rfl (pt_sR hq427 (pt_rf dl0) (pt_rf d_a416)) fun m430 n431 em432 hq433 => (pt_letk rfl (pt_sI hq433 (pt_rf dl0) rfl) fun m434 n435 em436 hq437 => (pt_letk rfl (pt_sI hq437 (pt_rf dl0) rfl) fun m438 n439 em440 hq441 => (pt_letk rfl (pt_sI hq441 (pt_rf dl0) rfl) fun m442 n443 em444 hq445 => (pt_letk rfl (pt_sI hq445 (pt_rf dl0) rfl) fun m446 n447 em448 hq449 => (pt_letr (pt_R hq449 (pt_rf dl0) (ml_kk em448 (ml_kk em444 (ml_kk em440 (ml_kk em436 (ml_kk em432 hc429)))))) fun a450 d_a450 => (pt_ck (pt_kc hq449 (pt_rf d_a450)) fun hc451 => (pt_letk rfl (pt_sI hq449 (pt_rf d_a450) rfl) fun m452 n453 em454 hq455 => (pt_letr (pt_R hq455 (pt_rf dl0) (ml_kk em454 (ml_kk em448 (ml_kk em444 (ml_kk em440 (ml_kk em436 (ml_kk em432 hc429))))))) fun a456 d_a456 => (pt_ck (pt_kc hq455 (pt_rf d_a456)) fun hc457 => (pt_letk rfl (pt_sI hq455 (pt_rf d_a456) rfl) fun m458 n459 em460 hq461 => (pt_letr (pt_R hq461 (pt_rf dl0) (ml_kk em460 (ml_kk em454 (ml_kk em448 (ml_kk em444 (ml_kk em440 (ml_kk em436 (ml_kk em432 hc429)))))))) fun a462 d_a462 => (pt_ck (pt_kc hq461 (pt_rf d_a462)) fun hc463 => (pt_retV (pt_I hq461 (pt_rf d_a462) hc463) hq461)))))))))))))))) (fun _ => (pt_retV rfl hq427))))))))))))))))
theorem zX10_ownAll_2 {p : Nat → Nat} {v0 r0 : ml_M} : ∀ (fu : Nat) (l0 l0' : Nat) (hl0 : pt_r p l0 l0') (l1 l1' : Int32) (hl1 : l1 = l1') (l2 l2' : Int32) (hl2 : l2 = l2') (m n : ml_M) (hq : pt_Q p v0 r0 m n), pt_T pt_Wv (fX10_ownAll_2 fu l0 l1 l2 m) (fX10_ownAll_2 fu l0' l1' l2' n) := by
  intro fu
  induction fu with
  | zero => intro l0 l0' hl0 l1 l1' hl1 l2 l2' hl2 m n hq; exact pt_none
  | succ fu ih =>
  intro l0 l0' hl0 l1 l1' hl1 l2 l2' hl2 m n hq
  obtain ⟨rfl, dl0⟩ := hl0
  subst hl1
  subst hl2
  have hk2 := ih
  unfold fX10_ownAll_2
  exact (pt_ck (pt_kc hq (pt_rf dl0)) fun hc468 => (pt_ite (pt_e2 (fun (a b : Int32) => b ≤ a) rfl (pt_I hq (pt_rf dl0) hc468)) (fun _ => (pt_rtv rfl)) (fun _ => (pt_letr (pt_R hq (pt_rf dl0) hc468) fun a469 d_a469 => (pt_ck (pt_in hq (pt_rf d_a469) rfl) fun hi470 => pt_letr (pt_Ra hq (pt_rf d_a469) hi470.1 rfl) fun a471 d_a471 => (pt_ck (pt_kc hq (pt_rf d_a471)) fun hc472 => (pt_ite (pt_e1 (fun (a : Int32) => a = 0) (pt_e2 (fun (a b : Int32) => a &&& b) (pt_I hq (pt_rf d_a471) hc472) rfl)) (fun _ => (pt_rtv rfl)) (fun _ => (hk2 _ _ (pt_rf dl0) _ _ rfl _ _ rfl _ _ hq)))))))))
theorem zX10_ownAll {p : Nat → Nat} {v0 r0 : ml_M} : ∀ (l0 l0' : Nat) (hl0 : pt_r p l0 l0') (l1 l1' : Int32) (hl1 : l1 = l1') (m n : ml_M) (hq : pt_Q p v0 r0 m n), pt_T pt_Wv (fX10_ownAll l0 l1 m) (fX10_ownAll l0' l1' n) := by
  intro l0 l0' hl0 l1 l1' hl1 m n hq
  obtain ⟨rfl, dl0⟩ := hl0
  subst hl1
  unfold fX10_ownAll
  exact (zX10_ownAll_2  ml_fu _ _ (pt_rf dl0) _ _ rfl _ _ rfl _ _ hq)
theorem zX10_fewest_55 {p : Nat → Nat} {v0 r0 : ml_M} {k5 k5' : Nat → Int32 → Int32 → ml_M → Option (Int32 × ml_M)} (hk5 : ∀ (l0 l0' : Nat) (hl0 : pt_r p l0 l0') (l1 l1' : Int32) (hl1 : l1 = l1') (l2 l2' : Int32) (hl2 : l2 = l2') (m n : ml_M) (hq : pt_Q p v0 r0 m n), pt_T (pt_WV p v0 r0) (k5 l0 l1 l2 m) (k5' l0' l1' l2' n)) : ∀ (l0 l0' : Nat) (hl0 : pt_r p l0 l0') (l1 l1' : Int32) (hl1 : l1 = l1') (l2 l2' : Int32) (hl2 : l2 = l2') (m n : ml_M) (hq : pt_Q p v0 r0 m n), pt_T (pt_WV p v0 r0) (fX10_fewest_55 k5 l0 l1 l2 m) (fX10_fewest_55 k5' l0' l1' l2' n) := by
  intro l0 l0' hl0 l1 l1' hl1 l2 l2' hl2 m n hq
  obtain ⟨rfl, dl0⟩ := hl0
  subst hl1
  subst hl2
  unfold fX10_fewest_55
  exact (hk5 _ _ (pt_rf dl0) _ _ rfl _ _ rfl _ _ hq)
theorem zX10_fewest_40 {p : Nat → Nat} {v0 r0 : ml_M} {k5 k5' : Nat → Int32 → Int32 → ml_M → Option (Int32 × ml_M)} (hk5 : ∀ (l0 l0' : Nat) (hl0 : pt_r p l0 l0') (l1 l1' : Int32) (hl1 : l1 = l1') (l2 l2' : Int32) (hl2 : l2 = l2') (m n : ml_M) (hq : pt_Q p v0 r0 m n), pt_T (pt_WV p v0 r0) (k5 l0 l1 l2 m) (k5' l0' l1' l2' n)) : ∀ (l0 l0' : Nat) (hl0 : pt_r p l0 l0') (l1 l1' : Int32) (hl1 : l1 = l1') (l2 l2' : Int32) (hl2 : l2 = l2') (t0 t0' : Int32) (ht0 : t0 = t0') (m n : ml_M) (hq : pt_Q p v0 r0 m n), pt_T (pt_WV p v0 r0) (fX10_fewest_40 k5 l0 l1 l2 t0 m) (fX10_fewest_40 k5' l0' l1' l2' t0' n) := by
  intro l0 l0' hl0 l1 l1' hl1 l2 l2' hl2 t0 t0' ht0 m n hq
  obtain ⟨rfl, dl0⟩ := hl0
  subst hl1
  subst hl2
  subst ht0
  unfold fX10_fewest_40
  exact (pt_ite rfl (fun _ => (zX10_fewest_55 hk5  _ _ (pt_rf dl0) _ _ rfl _ _ rfl _ _ hq)) (fun _ => (pt_ck (pt_kc hq (pt_rf dl0)) fun hc473 => (pt_b1 (zX10_ownAll _ _ (pt_rf dl0) _ _ rfl _ _ hq) fun r474 => (pt_ite rfl (fun _ => (zX10_fewest_55 hk5  _ _ (pt_rf dl0) _ _ rfl _ _ rfl _ _ hq)) (fun _ => (zX10_fewest_55 hk5  _ _ (pt_rf dl0) _ _ rfl _ _ rfl _ _ hq)))))))
theorem zX10_fewest_35 {p : Nat → Nat} {v0 r0 : ml_M} {k5 k5' : Nat → Int32 → Int32 → ml_M → Option (Int32 × ml_M)} (hk5 : ∀ (l0 l0' : Nat) (hl0 : pt_r p l0 l0') (l1 l1' : Int32) (hl1 : l1 = l1') (l2 l2' : Int32) (hl2 : l2 = l2') (m n : ml_M) (hq : pt_Q p v0 r0 m n), pt_T (pt_WV p v0 r0) (k5 l0 l1 l2 m) (k5' l0' l1' l2' n)) : ∀ (l0 l0' : Nat) (hl0 : pt_r p l0 l0') (l1 l1' : Int32) (hl1 : l1 = l1') (l2 l2' : Int32) (hl2 : l2 = l2') (m n : ml_M) (hq : pt_Q p v0 r0 m n), pt_T (pt_WV p v0 r0) (fX10_fewest_35 k5 l0 l1 l2 m) (fX10_fewest_35 k5' l0' l1' l2' n) := by
  intro l0 l0' hl0 l1 l1' hl1 l2 l2' hl2 m n hq
  obtain ⟨rfl, dl0⟩ := hl0
  subst hl1
  subst hl2
  unfold fX10_fewest_35
  exact (zX10_fewest_40 hk5  _ _ (pt_rf dl0) _ _ rfl _ _ rfl _ _ rfl _ _ hq)
theorem zX10_fewest_61 {p : Nat → Nat} {v0 r0 : ml_M} : ∀ (l0 l0' : Nat) (hl0 : pt_r p l0 l0') (l1 l1' : Int32) (hl1 : l1 = l1') (m n : ml_M) (hq : pt_Q p v0 r0 m n), pt_T (pt_WV p v0 r0) (fX10_fewest_61 l0 l1 m) (fX10_fewest_61 l0' l1' n) := by
  intro l0 l0' hl0 l1 l1' hl1 m n hq
  obtain ⟨rfl, dl0⟩ := hl0
  subst hl1
  unfold fX10_fewest_61
  exact (pt_ite rfl (fun _ => (pt_ck (pt_kc hq (pt_rf dl0)) fun hc481 => (pt_b2 (zX10_found _ _ (pt_rf dl0) _ _ rfl _ _ hq) fun r482 m483 n484 hq485 => (pt_retV rfl hq485)))) (fun _ => (pt_ck (pt_kc hq (pt_rf dl0)) fun hc475 => (pt_letk rfl (pt_sI hq (pt_rf dl0) rfl) fun m476 n477 em478 hq479 => (pt_b1 (zJ6_bitCount_0f7a4 _ _ rfl _ _ hq479) fun r480 => (pt_retV rfl hq479))))))
theorem zX10_fewest_5 {p : Nat → Nat} {v0 r0 : ml_M} : ∀ (fu : Nat) (l0 l0' : Nat) (hl0 : pt_r p l0 l0') (l1 l1' : Int32) (hl1 : l1 = l1') (l2 l2' : Int32) (hl2 : l2 = l2') (m n : ml_M) (hq : pt_Q p v0 r0 m n), pt_T (pt_WV p v0 r0) (fX10_fewest_5 fu l0 l1 l2 m) (fX10_fewest_5 fu l0' l1' l2' n) := by
  intro fu
  induction fu with
  | zero => intro l0 l0' hl0 l1 l1' hl1 l2 l2' hl2 m n hq; exact pt_none
  | succ fu ih =>
  intro l0 l0' hl0 l1 l1' hl1 l2 l2' hl2 m n hq
  obtain ⟨rfl, dl0⟩ := hl0
  subst hl1
  subst hl2
  have hk5 := ih
  unfold fX10_fewest_5
  exact (pt_ck (pt_kc hq (pt_rf dl0)) fun hc486 => (pt_letr (pt_R hq (pt_rf dl0) hc486) fun a487 d_a487 => (pt_ck (pt_kc hq (pt_rf d_a487)) fun hc488 => (pt_ite (pt_e2 (fun (a b : Int32) => b ≤ a) rfl (pt_e2 (fun (a b : Int32) => a <<< (b &&& 31)) rfl (pt_I hq (pt_rf d_a487) hc488))) (fun _ => (zX10_fewest_61   _ _ (pt_rf dl0) _ _ rfl _ _ hq)) (fun _ => (pt_ite rfl (fun _ => (zX10_fewest_35 hk5  _ _ (pt_rf dl0) _ _ rfl _ _ rfl _ _ hq)) (fun _ => (pt_b1 (zJ6_bitCount_0f7a4 _ _ rfl _ _ hq) fun r489 => (pt_b1 (zJ6_bitCount_0f7a4 _ _ rfl _ _ hq) fun r490 => (pt_ite rfl (fun _ => (zX10_fewest_40 hk5  _ _ (pt_rf dl0) _ _ rfl _ _ rfl _ _ rfl _ _ hq)) (fun _ => (zX10_fewest_35 hk5  _ _ (pt_rf dl0) _ _ rfl _ _ rfl _ _ hq))))))))))))
theorem zX10_fewest {p : Nat → Nat} {v0 r0 : ml_M} : ∀ (l0 l0' : Nat) (hl0 : pt_r p l0 l0') (m n : ml_M) (hq : pt_Q p v0 r0 m n), pt_T (pt_WV p v0 r0) (fX10_fewest l0 m) (fX10_fewest l0' n) := by
  intro l0 l0' hl0 m n hq
  obtain ⟨rfl, dl0⟩ := hl0
  unfold fX10_fewest
  exact (zX10_fewest_5  ml_fu _ _ (pt_rf dl0) _ _ rfl _ _ rfl _ _ hq)
theorem zX10_asked {p : Nat → Nat} {v0 r0 : ml_M} : ∀ (l0 l0' : Nat) (hl0 : pt_r p l0 l0') (m n : ml_M) (hq : pt_Q p v0 r0 m n), pt_T pt_Wv (fX10_asked l0 m) (fX10_asked l0' n) := by
  intro l0 l0' hl0 m n hq
  obtain ⟨rfl, dl0⟩ := hl0
  unfold fX10_asked
  exact (pt_ck (pt_kc hq (pt_rf dl0)) fun hc491 => (pt_rtv (pt_I hq (pt_rf dl0) hc491)))
theorem zX10_isThing {p : Nat → Nat} {v0 r0 : ml_M} : ∀ (l0 l0' : Nat) (hl0 : pt_r p l0 l0') (l1 l1' : Int32) (hl1 : l1 = l1') (m n : ml_M) (hq : pt_Q p v0 r0 m n), pt_T pt_Wv (fX10_isThing l0 l1 m) (fX10_isThing l0' l1' n) := by
  intro l0 l0' hl0 l1 l1' hl1 m n hq
  obtain ⟨rfl, dl0⟩ := hl0
  subst hl1
  unfold fX10_isThing
  exact (pt_ck (pt_kc hq (pt_rf dl0)) fun hc492 => (pt_b1 (zX10_within _ _ rfl _ _ rfl _ _ (pt_e2 (fun (a b : Int32) => a - b) (pt_I hq (pt_rf dl0) hc492) rfl) _ _ hq) fun r493 => (pt_ck (pt_z01 rfl) fun _ => (pt_rtv rfl))))
theorem zX10_may {p : Nat → Nat} {v0 r0 : ml_M} : ∀ (l0 l0' : Nat) (hl0 : pt_r p l0 l0') (l1 l1' : Int32) (hl1 : l1 = l1') (m n : ml_M) (hq : pt_Q p v0 r0 m n), pt_T pt_Wv (fX10_may l0 l1 m) (fX10_may l0' l1' n) := by
  intro l0 l0' hl0 l1 l1' hl1 m n hq
  obtain ⟨rfl, dl0⟩ := hl0
  subst hl1
  unfold fX10_may
  exact (pt_ck (pt_kc hq (pt_rf dl0)) fun hc494 => (pt_b1 (zX10_isThing _ _ (pt_rf dl0) _ _ rfl _ _ hq) fun r495 => (pt_ite rfl (fun _ => (pt_rtv rfl)) (fun _ => (pt_letr (pt_R hq (pt_rf dl0) hc494) fun a496 d_a496 => (pt_ck (pt_in hq (pt_rf d_a496) rfl) fun hi497 => pt_letr (pt_Ra hq (pt_rf d_a496) hi497.1 rfl) fun a498 d_a498 => (pt_ck (pt_kc hq (pt_rf d_a498)) fun hc499 => (pt_rtv (pt_I hq (pt_rf d_a498) hc499)))))))))
theorem zX10_fits_34 {p : Nat → Nat} {v0 r0 : ml_M} : ∀ (l0 l0' : Nat) (hl0 : pt_r p l0 l0') (l1 l1' : Int64) (hl1 : l1 = l1') (m n : ml_M) (hq : pt_Q p v0 r0 m n), pt_T (pt_WV p v0 r0) (fX10_fits_34 l0 l1 m) (fX10_fits_34 l0' l1' n) := by
  intro l0 l0' hl0 l1 l1' hl1 m n hq
  obtain ⟨rfl, dl0⟩ := hl0
  subst hl1
  unfold fX10_fits_34
  exact (pt_ck (pt_kc hq (pt_rf dl0)) fun hc500 => (pt_letk rfl (pt_sJ hq (pt_rf dl0) rfl) fun m501 n502 em503 hq504 => (pt_ite rfl (fun _ => (pt_retV rfl hq504)) (fun _ => (pt_retV rfl hq504)))))
theorem zX10_fits_4 {p : Nat → Nat} {v0 r0 : ml_M} : ∀ (fu : Nat) (l0 l0' : Nat) (hl0 : pt_r p l0 l0') (l1 l1' : Int64) (hl1 : l1 = l1') (l3 l3' : Int32) (hl3 : l3 = l3') (m n : ml_M) (hq : pt_Q p v0 r0 m n), pt_T (pt_WV p v0 r0) (fX10_fits_4 fu l0 l1 l3 m) (fX10_fits_4 fu l0' l1' l3' n) := by
  intro fu
  induction fu with
  | zero => intro l0 l0' hl0 l1 l1' hl1 l3 l3' hl3 m n hq; exact pt_none
  | succ fu ih =>
  intro l0 l0' hl0 l1 l1' hl1 l3 l3' hl3 m n hq
  obtain ⟨rfl, dl0⟩ := hl0
  subst hl1
  subst hl3
  have hk4 := ih
  unfold fX10_fits_4
  exact (pt_ck (pt_kc hq (pt_rf dl0)) fun hc505 => (pt_ite (pt_e2 (fun (a b : Int32) => b ≤ a) rfl (pt_I hq (pt_rf dl0) hc505)) (fun _ => (zX10_fits_34   _ _ (pt_rf dl0) _ _ rfl _ _ hq)) (fun _ => (pt_letr (pt_R hq (pt_rf dl0) hc505) fun a506 d_a506 => (pt_ck (pt_in hq (pt_rf d_a506) rfl) fun hi507 => pt_letr (pt_Ra hq (pt_rf d_a506) hi507.1 rfl) fun a508 d_a508 => (pt_ck (pt_kc hq (pt_rf d_a508)) fun hc509 => (pt_b1 (zJ6_bitCount_0f7a4 _ _ (pt_I hq (pt_rf d_a508) hc509) _ _ hq) fun r510 => (pt_leti rfl fun x511 => (hk4 _ _ (pt_rf dl0) _ _ rfl _ _ rfl _ _ hq)))))))))
theorem zX10_fits {p : Nat → Nat} {v0 r0 : ml_M} : ∀ (l0 l0' : Nat) (hl0 : pt_r p l0 l0') (m n : ml_M) (hq : pt_Q p v0 r0 m n), pt_T (pt_WV p v0 r0) (fX10_fits l0 m) (fX10_fits l0' n) := by
  intro l0 l0' hl0 m n hq
  obtain ⟨rfl, dl0⟩ := hl0
  unfold fX10_fits
  exact (zX10_fits_4  ml_fu _ _ (pt_rf dl0) _ _ rfl _ _ rfl _ _ hq)
theorem zX7_init {p : Nat → Nat} {v0 r0 : ml_M} : ∀ (l0 l0' : Nat) (hl0 : pt_r p l0 l0') (m n : ml_M) (hq : pt_Q p v0 r0 m n), pt_T (pt_WM p v0 r0) (fX7_init l0 m) (fX7_init l0' n) := by
  intro l0 l0' hl0 m n hq
  obtain ⟨rfl, dl0⟩ := hl0
  unfold fX7_init
  exact (pt_ck (pt_nzr (pt_rf dl0)) fun _ => (pt_ck (pt_kc hq (pt_rf dl0)) fun hc512 => (pt_letk rfl (pt_sI hq (pt_rf dl0) rfl) fun m513 n514 em515 hq516 => (pt_al hq516 rfl rfl fun a517 m518 n519 d_a517 hc520 hq521 => (pt_ck (pt_kc hq521 (pt_rf dl0)) fun hc522 => (pt_letk rfl (pt_sR hq521 (pt_rf dl0) (pt_rf d_a517)) fun m523 n524 em525 hq526 => (pt_al hq526 rfl rfl fun a527 m528 n529 d_a527 hc530 hq531 => (pt_ck (pt_kc hq531 (pt_rf dl0)) fun hc532 => (pt_letk rfl (pt_sR hq531 (pt_rf dl0) (pt_rf d_a527)) fun m533 n534 em535 hq536 => (pt_al hq536 rfl rfl fun a537 m538 n539 d_a537 hc540 hq541 => (pt_ck (pt_kc hq541 (pt_rf dl0)) fun hc542 => (pt_letk rfl (pt_sR hq541 (pt_rf dl0) (pt_rf d_a537)) fun m543 n544 em545 hq546 => (pt_al hq546 rfl rfl fun a547 m548 n549 d_a547 hc550 hq551 => (pt_ck (pt_kc hq551 (pt_rf dl0)) fun hc552 => (pt_letk rfl (pt_sR hq551 (pt_rf dl0) (pt_rf d_a547)) fun m553 n554 em555 hq556 => (pt_al hq556 rfl rfl fun a557 m558 n559 d_a557 hc560 hq561 => (pt_ck (pt_kc hq561 (pt_rf dl0)) fun hc562 => (pt_letk rfl (pt_sR hq561 (pt_rf dl0) (pt_rf d_a557)) fun m563 n564 em565 hq566 => (pt_al hq566 rfl rfl fun a567 m568 n569 d_a567 hc570 hq571 => (pt_ck (pt_kc hq571 (pt_rf dl0)) fun hc572 => (pt_letk rfl (pt_sR hq571 (pt_rf dl0) (pt_rf d_a567)) fun m573 n574 em575 hq576 => (pt_al hq576 rfl rfl fun a577 m578 n579 d_a577 hc580 hq581 => (pt_ck (pt_kc hq581 (pt_rf dl0)) fun hc582 => (pt_letk rfl (pt_sR hq581 (pt_rf dl0) (pt_rf d_a577)) fun m583 n584 em585 hq586 => (pt_al hq586 rfl rfl fun a587 m588 n589 d_a587 hc590 hq591 => (pt_ck (pt_kc hq591 (pt_rf dl0)) fun hc592 => (pt_letk rfl (pt_sR hq591 (pt_rf dl0) (pt_rf d_a587)) fun m593 n594 em595 hq596 => (pt_retM hq596))))))))))))))))))))))))))))
theorem zX4_init {p : Nat → Nat} {v0 r0 : ml_M} : ∀ (l0 l0' : Nat) (hl0 : pt_r p l0 l0') (m n : ml_M) (hq : pt_Q p v0 r0 m n), pt_T (pt_WM p v0 r0) (fX4_init l0 m) (fX4_init l0' n) := by
  intro l0 l0' hl0 m n hq
  obtain ⟨rfl, dl0⟩ := hl0
  unfold fX4_init
  exact (pt_ck (pt_nzr (pt_rf dl0)) fun _ => (pt_ck (pt_kc hq (pt_rf dl0)) fun hc597 => (pt_letk rfl (pt_sI hq (pt_rf dl0) rfl) fun m598 n599 em600 hq601 => (pt_al hq601 rfl rfl fun a602 m603 n604 d_a602 hc605 hq606 => (pt_ck (pt_kc hq606 (pt_rf dl0)) fun hc607 => (pt_letk rfl (pt_sR hq606 (pt_rf dl0) (pt_rf d_a602)) fun m608 n609 em610 hq611 => (pt_al hq611 rfl rfl fun a612 m613 n614 d_a612 hc615 hq616 => (pt_ck (pt_kc hq616 (pt_rf dl0)) fun hc617 => (pt_letk rfl (pt_sR hq616 (pt_rf dl0) (pt_rf d_a612)) fun m618 n619 em620 hq621 => (pt_al hq621 rfl rfl fun a622 m623 n624 d_a622 hc625 hq626 => (pt_ck (pt_kc hq626 (pt_rf dl0)) fun hc627 => (pt_letk rfl (pt_sR hq626 (pt_rf dl0) (pt_rf d_a622)) fun m628 n629 em630 hq631 => (pt_al hq631 rfl rfl fun a632 m633 n634 d_a632 hc635 hq636 => (pt_ck (pt_kc hq636 (pt_rf dl0)) fun hc637 => (pt_letk rfl (pt_sR hq636 (pt_rf dl0) (pt_rf d_a632)) fun m638 n639 em640 hq641 => (pt_retM hq641))))))))))))))))
theorem zX3_init {p : Nat → Nat} {v0 r0 : ml_M} : ∀ (l0 l0' : Nat) (hl0 : pt_r p l0 l0') (m n : ml_M) (hq : pt_Q p v0 r0 m n), pt_T (pt_WM p v0 r0) (fX3_init l0 m) (fX3_init l0' n) := by
  intro l0 l0' hl0 m n hq
  obtain ⟨rfl, dl0⟩ := hl0
  unfold fX3_init
  exact (pt_ck (pt_nzr (pt_rf dl0)) fun _ => (pt_al hq rfl rfl fun a642 m643 n644 d_a642 hc645 hq646 => (pt_ck (pt_kc hq646 (pt_rf dl0)) fun hc647 => (pt_letk rfl (pt_sR hq646 (pt_rf dl0) (pt_rf d_a642)) fun m648 n649 em650 hq651 => (pt_al hq651 rfl rfl fun a652 m653 n654 d_a652 hc655 hq656 => (pt_ck (pt_kc hq656 (pt_rf dl0)) fun hc657 => (pt_letk rfl (pt_sR hq656 (pt_rf dl0) (pt_rf d_a652)) fun m658 n659 em660 hq661 => (pt_al hq661 rfl rfl fun a662 m663 n664 d_a662 hc665 hq666 => (pt_ck (pt_kc hq666 (pt_rf dl0)) fun hc667 => (pt_letk rfl (pt_sR hq666 (pt_rf dl0) (pt_rf d_a662)) fun m668 n669 em670 hq671 => (pt_al hq671 rfl rfl fun a672 m673 n674 d_a672 hc675 hq676 => (pt_ck (pt_kc hq676 (pt_rf dl0)) fun hc677 => (pt_letk rfl (pt_sR hq676 (pt_rf dl0) (pt_rf d_a672)) fun m678 n679 em680 hq681 => (pt_al hq681 rfl rfl fun a682 m683 n684 d_a682 hc685 hq686 => (pt_ck (pt_kc hq686 (pt_rf dl0)) fun hc687 => (pt_letk rfl (pt_sR hq686 (pt_rf dl0) (pt_rf d_a682)) fun m688 n689 em690 hq691 => (pt_retM hq691)))))))))))))))))
theorem zX10_init {p : Nat → Nat} {v0 r0 : ml_M} : ∀ (l0 l0' : Nat) (hl0 : pt_r p l0 l0') (m n : ml_M) (hq : pt_Q p v0 r0 m n), pt_T (pt_WM p v0 r0) (fX10_init l0 m) (fX10_init l0' n) := by
  intro l0 l0' hl0 m n hq
  obtain ⟨rfl, dl0⟩ := hl0
  unfold fX10_init
  exact (pt_ck (pt_nzr (pt_rf dl0)) fun _ => (pt_al hq rfl rfl fun a692 m693 n694 d_a692 hc695 hq696 => (pt_ck (pt_kc hq696 (pt_rf dl0)) fun hc697 => (pt_letk rfl (pt_sR hq696 (pt_rf dl0) (pt_rf d_a692)) fun m698 n699 em700 hq701 => (pt_al hq701 rfl rfl fun a702 m703 n704 d_a702 hc705 hq706 => (pt_ck (pt_kc hq706 (pt_rf dl0)) fun hc707 => (pt_letk rfl (pt_sR hq706 (pt_rf dl0) (pt_rf d_a702)) fun m708 n709 em710 hq711 => (pt_al hq711 rfl rfl fun a712 m713 n714 d_a712 hc715 hq716 => (pt_al hq716 rfl rfl fun a717 m718 n719 d_a717 hc720 hq721 => (pt_b1m (zX1_init _ _ (pt_rf d_a712) _ _ (pt_rf d_a717) _ _ hq721) fun m722 n723 hq724 => (pt_ck (pt_kc hq724 (pt_rf dl0)) fun hc725 => (pt_letk rfl (pt_sR hq724 (pt_rf dl0) (pt_rf d_a712)) fun m726 n727 em728 hq729 => (pt_letk rfl (pt_sI hq729 (pt_rf dl0) rfl) fun m730 n731 em732 hq733 => (pt_al hq733 rfl rfl fun a734 m735 n736 d_a734 hc737 hq738 => (pt_ck (pt_kc hq738 (pt_rf dl0)) fun hc739 => (pt_letk rfl (pt_sR hq738 (pt_rf dl0) (pt_rf d_a734)) fun m740 n741 em742 hq743 => (pt_al hq743 rfl rfl fun a744 m745 n746 d_a744 hc747 hq748 => (pt_ck (pt_kc hq748 (pt_rf dl0)) fun hc749 => (pt_letk rfl (pt_sR hq748 (pt_rf dl0) (pt_rf d_a744)) fun m750 n751 em752 hq753 => (pt_al hq753 rfl rfl fun a754 m755 n756 d_a754 hc757 hq758 => (pt_ck (pt_kc hq758 (pt_rf dl0)) fun hc759 => (pt_letk rfl (pt_sR hq758 (pt_rf dl0) (pt_rf d_a754)) fun m760 n761 em762 hq763 => (pt_al hq763 rfl rfl fun a764 m765 n766 d_a764 hc767 hq768 => (pt_ck (pt_kc hq768 (pt_rf dl0)) fun hc769 => (pt_letk rfl (pt_sR hq768 (pt_rf dl0) (pt_rf d_a764)) fun m770 n771 em772 hq773 => (pt_al hq773 rfl rfl fun a774 m775 n776 d_a774 hc777 hq778 => (pt_b1m (zX7_init _ _ (pt_rf d_a774) _ _ hq778) fun m779 n780 hq781 => (pt_ck (pt_kc hq781 (pt_rf dl0)) fun hc782 => (pt_letk rfl (pt_sR hq781 (pt_rf dl0) (pt_rf d_a774)) fun m783 n784 em785 hq786 => (pt_al hq786 rfl rfl fun a787 m788 n789 d_a787 hc790 hq791 => (pt_b1m (zX4_init _ _ (pt_rf d_a787) _ _ hq791) fun m792 n793 hq794 => (pt_ck (pt_kc hq794 (pt_rf dl0)) fun hc795 => (pt_letk rfl (pt_sR hq794 (pt_rf dl0) (pt_rf d_a787)) fun m796 n797 em798 hq799 => (pt_al hq799 rfl rfl fun a800 m801 n802 d_a800 hc803 hq804 => (pt_b1m (zX3_init _ _ (pt_rf d_a800) _ _ hq804) fun m805 n806 hq807 => (pt_ck (pt_kc hq807 (pt_rf dl0)) fun hc808 => (pt_letk rfl (pt_sR hq807 (pt_rf dl0) (pt_rf d_a800)) fun m809 n810 em811 hq812 => (pt_al hq812 rfl rfl fun a813 m814 n815 d_a813 hc816 hq817 => (pt_ck (pt_kc hq817 (pt_rf dl0)) fun hc818 => (pt_letk rfl (pt_sR hq817 (pt_rf dl0) (pt_rf d_a813)) fun m819 n820 em821 hq822 => (pt_retM hq822)))))))))))))))))))))))))))))))))))))))))
theorem zX10_areYears {p : Nat → Nat} {v0 r0 : ml_M} : ∀ (l0 l0' : Int32) (hl0 : l0 = l0') (l1 l1' : Int32) (hl1 : l1 = l1') (m n : ml_M) (hq : pt_Q p v0 r0 m n), pt_T pt_Wv (fX10_areYears l0 l1 m) (fX10_areYears l0' l1' n) := by
  intro l0 l0' hl0 l1 l1' hl1 m n hq
  subst hl0
  subst hl1
  unfold fX10_areYears
  exact (pt_ite rfl (fun _ => (pt_rtv rfl)) (fun _ => (pt_ite rfl (fun _ => (pt_rtv rfl)) (fun _ => (pt_ite rfl (fun _ => (pt_rtv rfl)) (fun _ => (pt_rtv rfl)))))))
theorem zX10_isKeyNumber_17 {p : Nat → Nat} {v0 r0 : ml_M} : ∀ (fu : Nat) (l1 l1' : Int32) (hl1 : l1 = l1') (m n : ml_M) (hq : pt_Q p v0 r0 m n), pt_T pt_Wv (fX10_isKeyNumber_17 fu l1 m) (fX10_isKeyNumber_17 fu l1' n) := by
  intro fu
  induction fu with
  | zero => intro l1 l1' hl1 m n hq; exact pt_none
  | succ fu ih =>
  intro l1 l1' hl1 m n hq
  subst hl1
  have hk17 := ih
  unfold fX10_isKeyNumber_17
  exact (pt_ite rfl (fun _ => (pt_rtv rfl)) (fun _ => (pt_b1 (zX10_within _ _ rfl _ _ rfl _ _ rfl _ _ hq) fun r823 => (pt_ite rfl (fun _ => (pt_rtv rfl)) (fun _ => (pt_leti rfl fun x824 => (hk17 _ _ rfl _ _ hq)))))))
theorem zX10_isKeyNumber {p : Nat → Nat} {v0 r0 : ml_M} : ∀ (l0 l0' : Int32) (hl0 : l0 = l0') (m n : ml_M) (hq : pt_Q p v0 r0 m n), pt_T pt_Wv (fX10_isKeyNumber l0 m) (fX10_isKeyNumber l0' n) := by
  intro l0 l0' hl0 m n hq
  subst hl0
  unfold fX10_isKeyNumber
  exact (pt_b1 (zX10_within _ _ rfl _ _ rfl _ _ rfl _ _ hq) fun r825 => (pt_ite rfl (fun _ => (pt_rtv rfl)) (fun _ => (zX10_isKeyNumber_17  ml_fu _ _ rfl _ _ hq))))
theorem zX10_numberOf {p : Nat → Nat} {v0 r0 : ml_M} : ∀ (l0 l0' : Int32) (hl0 : l0 = l0') (l1 l1' : Int32) (hl1 : l1 = l1') (l2 l2' : Int32) (hl2 : l2 = l2') (m n : ml_M) (hq : pt_Q p v0 r0 m n), pt_T pt_Wv (fX10_numberOf l0 l1 l2 m) (fX10_numberOf l0' l1' l2' n) := by
  intro l0 l0' hl0 l1 l1' hl1 l2 l2' hl2 m n hq
  subst hl0
  subst hl1
  subst hl2
  unfold fX10_numberOf
  exact (pt_ite rfl (fun _ => (pt_b1 (zX10_within _ _ rfl _ _ rfl _ _ rfl _ _ hq) fun r826 => (pt_ite rfl (fun _ => (pt_rtv rfl)) (fun _ => (pt_rtv rfl))))) (fun _ => (pt_ite rfl (fun _ => (pt_b1 (zX10_within _ _ rfl _ _ rfl _ _ rfl _ _ hq) fun r827 => (pt_ite rfl (fun _ => (pt_rtv rfl)) (fun _ => (pt_b1 (zX10_within _ _ rfl _ _ rfl _ _ rfl _ _ hq) fun r828 => (pt_ite rfl (fun _ => (pt_rtv rfl)) (fun _ => (pt_rtv rfl)))))))) (fun _ => (pt_ite rfl (fun _ => (pt_b1 (zX10_within _ _ rfl _ _ rfl _ _ rfl _ _ hq) fun r829 => (pt_ite rfl (fun _ => (pt_rtv rfl)) (fun _ => (pt_ite rfl (fun _ => (pt_rtv rfl)) (fun _ => (pt_rtv rfl))))))) (fun _ => (pt_ite rfl (fun _ => (pt_b1 (zX10_within _ _ rfl _ _ rfl _ _ rfl _ _ hq) fun r830 => (pt_ite rfl (fun _ => (pt_rtv rfl)) (fun _ => (pt_b1 (zX10_within _ _ rfl _ _ rfl _ _ rfl _ _ hq) fun r831 => (pt_ite rfl (fun _ => (pt_rtv rfl)) (fun _ => (pt_ite rfl (fun _ => (pt_rtv rfl)) (fun _ => (pt_rtv rfl)))))))))) (fun _ => (pt_ite rfl (fun _ => (pt_b1 (zX10_isKeyNumber _ _ rfl _ _ hq) fun r832 => (pt_ite rfl (fun _ => (pt_rtv rfl)) (fun _ => (pt_rtv rfl))))) (fun _ => (pt_rtv rfl)))))))))))
theorem zX10_isLodger {p : Nat → Nat} {v0 r0 : ml_M} : ∀ (l0 l0' : Nat) (hl0 : pt_r p l0 l0') (l1 l1' : Int32) (hl1 : l1 = l1') (m n : ml_M) (hq : pt_Q p v0 r0 m n), pt_T pt_Wv (fX10_isLodger l0 l1 m) (fX10_isLodger l0' l1' n) := by
  intro l0 l0' hl0 l1 l1' hl1 m n hq
  obtain ⟨rfl, dl0⟩ := hl0
  subst hl1
  unfold fX10_isLodger
  exact (pt_ck (pt_kc hq (pt_rf dl0)) fun hc833 => (pt_letr (pt_R hq (pt_rf dl0) hc833) fun a834 d_a834 => (pt_ck (pt_kc hq (pt_rf d_a834)) fun hc835 => (pt_b1 (zX10_within _ _ rfl _ _ rfl _ _ (pt_e2 (fun (a b : Int32) => a - b) (pt_I hq (pt_rf d_a834) hc835) rfl) _ _ hq) fun r836 => (pt_ck (pt_z01 rfl) fun _ => (pt_rtv rfl))))))
theorem zX8_init {p : Nat → Nat} {v0 r0 : ml_M} : ∀ (l0 l0' : Nat) (hl0 : pt_r p l0 l0') (l1 l1' : Int32) (hl1 : l1 = l1') (l2 l2' : Int32) (hl2 : l2 = l2') (l3 l3' : Int32) (hl3 : l3 = l3') (l4 l4' : Int32) (hl4 : l4 = l4') (l5 l5' : Int32) (hl5 : l5 = l5') (m n : ml_M) (hq : pt_Q p v0 r0 m n), pt_T (pt_WM p v0 r0) (fX8_init l0 l1 l2 l3 l4 l5 m) (fX8_init l0' l1' l2' l3' l4' l5' n) := by
  intro l0 l0' hl0 l1 l1' hl1 l2 l2' hl2 l3 l3' hl3 l4 l4' hl4 l5 l5' hl5 m n hq
  obtain ⟨rfl, dl0⟩ := hl0
  subst hl1
  subst hl2
  subst hl3
  subst hl4
  subst hl5
  unfold fX8_init
  exact (pt_ck (pt_nzr (pt_rf dl0)) fun _ => (pt_ck (pt_kc hq (pt_rf dl0)) fun hc837 => (pt_letk rfl (pt_sI hq (pt_rf dl0) rfl) fun m838 n839 em840 hq841 => (pt_letk rfl (pt_sI hq841 (pt_rf dl0) rfl) fun m842 n843 em844 hq845 => (pt_letk rfl (pt_sI hq845 (pt_rf dl0) rfl) fun m846 n847 em848 hq849 => (pt_letk rfl (pt_sI hq849 (pt_rf dl0) rfl) fun m850 n851 em852 hq853 => (pt_letk rfl (pt_sI hq853 (pt_rf dl0) rfl) fun m854 n855 em856 hq857 => (pt_letk rfl (pt_sI hq857 (pt_rf dl0) rfl) fun m858 n859 em860 hq861 => (pt_retM hq861)))))))))
theorem zX8_suitsAsLetter_20 {p : Nat → Nat} {v0 r0 : ml_M} : ∀ (l0 l0' : Nat) (hl0 : pt_r p l0 l0') (l1 l1' : Nat) (hl1 : pt_r p l1 l1') (m n : ml_M) (hq : pt_Q p v0 r0 m n), pt_T pt_Wv (fX8_suitsAsLetter_20 l0 l1 m) (fX8_suitsAsLetter_20 l0' l1' n) := by
  intro l0 l0' hl0 l1 l1' hl1 m n hq
  obtain ⟨rfl, dl0⟩ := hl0
  obtain ⟨rfl, dl1⟩ := hl1
  unfold fX8_suitsAsLetter_20
  exact (pt_ck (pt_kc hq (pt_rf dl0)) fun hc862 => (pt_ck (pt_kc hq (pt_rf dl1)) fun hc863 => (pt_ite (pt_e2 (fun (a b : Int32) => a = b) (pt_e2 (fun (a b : Int32) => a - a / b * b) (pt_I hq (pt_rf dl0) hc862) rfl) (pt_I hq (pt_rf dl1) hc863)) (fun _ => (pt_rtv rfl)) (fun _ => (pt_rtv rfl)))))
theorem zX8_suitsAsLetter {p : Nat → Nat} {v0 r0 : ml_M} : ∀ (l0 l0' : Nat) (hl0 : pt_r p l0 l0') (l1 l1' : Nat) (hl1 : pt_r p l1 l1') (m n : ml_M) (hq : pt_Q p v0 r0 m n), pt_T pt_Wv (fX8_suitsAsLetter l0 l1 m) (fX8_suitsAsLetter l0' l1' n) := by
  intro l0 l0' hl0 l1 l1' hl1 m n hq
  obtain ⟨rfl, dl0⟩ := hl0
  obtain ⟨rfl, dl1⟩ := hl1
  unfold fX8_suitsAsLetter
  exact (pt_ck (pt_kc hq (pt_rf dl0)) fun hc864 => (pt_leti (pt_e2 (fun (a b : Int32) => a / b) (pt_I hq (pt_rf dl0) hc864) rfl) fun x865 => (pt_ite rfl (fun _ => (zX8_suitsAsLetter_20   _ _ (pt_rf dl0) _ _ (pt_rf dl1) _ _ hq)) (fun _ => (pt_ck (pt_kc hq (pt_rf dl1)) fun hc866 => (pt_ite (pt_e2 (fun (a b : Int32) => a = b) rfl (pt_I hq (pt_rf dl1) hc866)) (fun _ => (zX8_suitsAsLetter_20   _ _ (pt_rf dl0) _ _ (pt_rf dl1) _ _ hq)) (fun _ => (pt_rtv rfl))))))))
theorem zX8_suits_138 {p : Nat → Nat} {v0 r0 : ml_M} : ∀  (m n : ml_M) (hq : pt_Q p v0 r0 m n), pt_T pt_Wv (fX8_suits_138  m) (fX8_suits_138  n) := by
  intro  m n hq
  unfold fX8_suits_138
  exact (pt_rtv rfl)
theorem zX8_suits {p : Nat → Nat} {v0 r0 : ml_M} : ∀ (l0 l0' : Nat) (hl0 : pt_r p l0 l0') (l1 l1' : Nat) (hl1 : pt_r p l1 l1') (l2 l2' : Int32) (hl2 : l2 = l2') (m n : ml_M) (hq : pt_Q p v0 r0 m n), pt_T pt_Wv (fX8_suits l0 l1 l2 m) (fX8_suits l0' l1' l2' n) := by
  intro l0 l0' hl0 l1 l1' hl1 l2 l2' hl2 m n hq
  obtain ⟨rfl, dl0⟩ := hl0
  obtain ⟨rfl, dl1⟩ := hl1
  subst hl2
  unfold fX8_suits
  exact (pt_ck (pt_kc hq (pt_rf dl0)) fun hc867 => (pt_ck (pt_kc hq (pt_rf dl1)) fun hc868 => (pt_ite (pt_e2 (fun (a b : Int32) => a < b) (pt_I hq (pt_rf dl0) hc867) (pt_I hq (pt_rf dl1) hc868)) (fun _ => (pt_rtv rfl)) (fun _ => (pt_ite (pt_e2 (fun (a b : Int32) => a ≤ b) (pt_I hq (pt_rf dl0) hc867) (pt_I hq (pt_rf dl1) hc868)) (fun _ => (pt_ite (pt_e1 (fun (a : Int32) => a = (1 : Int32)) (pt_I hq (pt_rf dl0) hc867)) (fun _ => (pt_ite (pt_e2 (fun (a b : Int32) => b < a) (pt_e1 (fun (a : Int32) => if 0 ≤ a then a else 0 - a) (pt_e2 (fun (a b : Int32) => a - b) (pt_I hq (pt_rf dl0) hc867) (pt_I hq (pt_rf dl1) hc868))) rfl) (fun _ => (pt_rtv rfl)) (fun _ => (pt_rtv rfl)))) (fun _ => (pt_ite (pt_e1 (fun (a : Int32) => a = (2 : Int32)) (pt_I hq (pt_rf dl0) hc867)) (fun _ => (pt_b1 (zX8_suitsAsLetter _ _ (pt_rf dl0) _ _ (pt_rf dl1) _ _ hq) fun r869 => (pt_ck (pt_z01 rfl) fun _ => (pt_rtv rfl)))) (fun _ => (pt_ite (pt_e1 (fun (a : Int32) => a = (3 : Int32)) (pt_I hq (pt_rf dl0) hc867)) (fun _ => (pt_ite (pt_e2 (fun (a b : Int32) => a = b) rfl (pt_I hq (pt_rf dl0) hc867)) (fun _ => (pt_b1 (zX8_suitsAsLetter _ _ (pt_rf dl0) _ _ (pt_rf dl1) _ _ hq) fun r870 => (pt_ite rfl (fun _ => (pt_rtv rfl)) (fun _ => (pt_rtv rfl))))) (fun _ => (pt_rtv rfl)))) (fun _ => (pt_ite (pt_e1 (fun (a : Int32) => a = (4 : Int32)) (pt_I hq (pt_rf dl0) hc867)) (fun _ => (pt_ite (pt_e2 (fun (a b : Int32) => a = b) (pt_e2 (fun (a b : Int32) => a / b) (pt_I hq (pt_rf dl0) hc867) rfl) (pt_I hq (pt_rf dl1) hc868)) (fun _ => (zX8_suits_138    _ _ hq)) (fun _ => (pt_ite (pt_e2 (fun (a b : Int32) => a = b) (pt_e2 (fun (a b : Int32) => a - a / b * b) (pt_I hq (pt_rf dl0) hc867) rfl) (pt_I hq (pt_rf dl1) hc868)) (fun _ => (zX8_suits_138    _ _ hq)) (fun _ => (pt_rtv rfl)))))) (fun _ => (pt_rtv rfl)))))))))) (fun _ => (pt_rtv rfl)))))))
theorem zX10_ownersOf_38 {p : Nat → Nat} {v0 r0 : ml_M} {k4 k4' : Nat → Nat → Int32 → Int32 → ml_M → Option Int32} (hk4 : ∀ (l0 l0' : Nat) (hl0 : pt_r p l0 l0') (l1 l1' : Nat) (hl1 : pt_r p l1 l1') (l2 l2' : Int32) (hl2 : l2 = l2') (l3 l3' : Int32) (hl3 : l3 = l3') (m n : ml_M) (hq : pt_Q p v0 r0 m n), pt_T pt_Wv (k4 l0 l1 l2 l3 m) (k4' l0' l1' l2' l3' n)) : ∀ (l0 l0' : Nat) (hl0 : pt_r p l0 l0') (l1 l1' : Nat) (hl1 : pt_r p l1 l1') (l2 l2' : Int32) (hl2 : l2 = l2') (l3 l3' : Int32) (hl3 : l3 = l3') (m n : ml_M) (hq : pt_Q p v0 r0 m n), pt_T pt_Wv (fX10_ownersOf_38 k4 l0 l1 l2 l3 m) (fX10_ownersOf_38 k4' l0' l1' l2' l3' n) := by
  intro l0 l0' hl0 l1 l1' hl1 l2 l2' hl2 l3 l3' hl3 m n hq
  obtain ⟨rfl, dl0⟩ := hl0
  obtain ⟨rfl, dl1⟩ := hl1
  subst hl2
  subst hl3
  unfold fX10_ownersOf_38
  exact (hk4 _ _ (pt_rf dl0) _ _ (pt_rf dl1) _ _ rfl _ _ rfl _ _ hq)
theorem zX10_ownersOf_4 {p : Nat → Nat} {v0 r0 : ml_M} : ∀ (fu : Nat) (l0 l0' : Nat) (hl0 : pt_r p l0 l0') (l1 l1' : Nat) (hl1 : pt_r p l1 l1') (l2 l2' : Int32) (hl2 : l2 = l2') (l3 l3' : Int32) (hl3 : l3 = l3') (m n : ml_M) (hq : pt_Q p v0 r0 m n), pt_T pt_Wv (fX10_ownersOf_4 fu l0 l1 l2 l3 m) (fX10_ownersOf_4 fu l0' l1' l2' l3' n) := by
  intro fu
  induction fu with
  | zero => intro l0 l0' hl0 l1 l1' hl1 l2 l2' hl2 l3 l3' hl3 m n hq; exact pt_none
  | succ fu ih =>
  intro l0 l0' hl0 l1 l1' hl1 l2 l2' hl2 l3 l3' hl3 m n hq
  obtain ⟨rfl, dl0⟩ := hl0
  obtain ⟨rfl, dl1⟩ := hl1
  subst hl2
  subst hl3
  have hk4 := ih
  unfold fX10_ownersOf_4
  exact (pt_ck (pt_kc hq (pt_rf dl0)) fun hc871 => (pt_letr (pt_R hq (pt_rf dl0) hc871) fun a872 d_a872 => (pt_ck (pt_kc hq (pt_rf d_a872)) fun hc873 => (pt_ite (pt_e2 (fun (a b : Int32) => b ≤ a) rfl (pt_I hq (pt_rf d_a872) hc873)) (fun _ => (pt_rtv rfl)) (fun _ => (pt_letr (pt_R hq (pt_rf dl0) hc871) fun a874 d_a874 => (pt_ck (pt_kc hq (pt_rf d_a874)) fun hc875 => (pt_letr (pt_R hq (pt_rf d_a874) hc875) fun a876 d_a876 => (pt_ck (pt_in hq (pt_rf d_a876) rfl) fun hi877 => pt_letr (pt_Ra hq (pt_rf d_a876) hi877.1 rfl) fun a878 d_a878 => (pt_ck (pt_kc hq (pt_rf dl1)) fun hc879 => (pt_b1 (zX8_suits _ _ (pt_rf dl1) _ _ (pt_rf d_a878) _ _ rfl _ _ hq) fun r880 => (pt_ite rfl (fun _ => (zX10_ownersOf_38 hk4  _ _ (pt_rf dl0) _ _ (pt_rf dl1) _ _ rfl _ _ rfl _ _ hq)) (fun _ => (pt_leti rfl fun x881 => (zX10_ownersOf_38 hk4  _ _ (pt_rf dl0) _ _ (pt_rf dl1) _ _ rfl _ _ rfl _ _ hq)))))))))))))))
theorem zX10_ownersOf {p : Nat → Nat} {v0 r0 : ml_M} : ∀ (l0 l0' : Nat) (hl0 : pt_r p l0 l0') (l1 l1' : Nat) (hl1 : pt_r p l1 l1') (m n : ml_M) (hq : pt_Q p v0 r0 m n), pt_T pt_Wv (fX10_ownersOf l0 l1 m) (fX10_ownersOf l0' l1' n) := by
  intro l0 l0' hl0 l1 l1' hl1 m n hq
  obtain ⟨rfl, dl0⟩ := hl0
  obtain ⟨rfl, dl1⟩ := hl1
  unfold fX10_ownersOf
  exact (zX10_ownersOf_4  ml_fu _ _ (pt_rf dl0) _ _ (pt_rf dl1) _ _ rfl _ _ rfl _ _ hq)
theorem zX10_thing_77 {p : Nat → Nat} {v0 r0 : ml_M} : ∀ (l0 l0' : Nat) (hl0 : pt_r p l0 l0') (t0 t0' : Int32) (ht0 : t0 = t0') (t1 t1' : Int32) (ht1 : t1 = t1') (t2 t2' : Int32) (ht2 : t2 = t2') (t3 t3' : Int32) (ht3 : t3 = t3') (t4 t4' : Int32) (ht4 : t4 = t4') (t5 t5' : Nat) (ht5 : pt_r p t5 t5') (t6 t6' : Nat) (ht6 : pt_r p t6 t6') (m n : ml_M) (hq : pt_Q p v0 r0 m n), pt_T (pt_WV p v0 r0) (fX10_thing_77 l0 t0 t1 t2 t3 t4 t5 t6 m) (fX10_thing_77 l0' t0' t1' t2' t3' t4' t5' t6' n) := by
  intro l0 l0' hl0 t0 t0' ht0 t1 t1' ht1 t2 t2' ht2 t3 t3' ht3 t4 t4' ht4 t5 t5' ht5 t6 t6' ht6 m n hq
  obtain ⟨rfl, dl0⟩ := hl0
  subst ht0
  subst ht1
  subst ht2
  subst ht3
  subst ht4
  obtain ⟨rfl, dt5⟩ := ht5
  obtain ⟨rfl, dt6⟩ := ht6
  unfold fX10_thing_77
  exact (pt_ck (pt_nzr (pt_rf dt5)) fun _ => (pt_b1m (zX8_init _ _ (pt_rf dt5) _ _ rfl _ _ rfl _ _ rfl _ _ rfl _ _ rfl _ _ hq) fun m882 n883 hq884 => (pt_ck (pt_kc hq884 (pt_rf dl0)) fun hc885 => (pt_b1 (zX10_ownersOf _ _ (pt_rf dl0) _ _ (pt_rf dt6) _ _ hq884) fun r886 => (pt_ck (pt_kc hq884 (pt_rf dt6)) fun hc887 => (pt_letk rfl (pt_sI hq884 (pt_rf dt6) rfl) fun m888 n889 em890 hq891 => (pt_letr (pt_R hq891 (pt_rf dl0) (ml_kk em890 hc885)) fun a892 d_a892 => (pt_ck (pt_in hq891 (pt_rf d_a892) (pt_I hq891 (pt_rf dl0) (ml_kk em890 hc885))) fun hi893 => (pt_letk rfl (pt_sRa hq891 (pt_rf d_a892) (pt_I hq891 (pt_rf dl0) (ml_kk em890 hc885)) (pt_rf dt6)) fun m894 n895 em896 hq897 => (pt_letr (pt_R hq897 (pt_rf dl0) (ml_kk em896 (ml_kk em890 hc885))) fun a898 d_a898 => (pt_ck (pt_kc hq897 (pt_rf d_a898)) fun hc899 => (pt_letk rfl (pt_sI hq897 (pt_rf d_a898) rfl) fun m900 n901 em902 hq903 => (pt_letk rfl (pt_sI hq903 (pt_rf dl0) (pt_e2 (fun (a b : Int32) => a + b) (pt_I hq903 (pt_rf dl0) (ml_kk em902 (ml_kk em896 (ml_kk em890 hc885)))) rfl)) fun m904 n905 em906 hq907 => (pt_retV (pt_I hq903 (pt_rf dl0) (ml_kk em902 (ml_kk em896 (ml_kk em890 hc885)))) hq907))))))))))))))
theorem zX10_thing_44 {p : Nat → Nat} {v0 r0 : ml_M} : ∀ (l0 l0' : Nat) (hl0 : pt_r p l0 l0') (l1 l1' : Int32) (hl1 : l1 = l1') (l2 l2' : Int32) (hl2 : l2 = l2') (l3 l3' : Int32) (hl3 : l3 = l3') (l5 l5' : Int32) (hl5 : l5 = l5') (l6 l6' : Int32) (hl6 : l6 = l6') (m n : ml_M) (hq : pt_Q p v0 r0 m n), pt_T (pt_WV p v0 r0) (fX10_thing_44 l0 l1 l2 l3 l5 l6 m) (fX10_thing_44 l0' l1' l2' l3' l5' l6' n) := by
  intro l0 l0' hl0 l1 l1' hl1 l2 l2' hl2 l3 l3' hl3 l5 l5' hl5 l6 l6' hl6 m n hq
  obtain ⟨rfl, dl0⟩ := hl0
  subst hl1
  subst hl2
  subst hl3
  subst hl5
  subst hl6
  unfold fX10_thing_44
  exact (pt_ck (pt_kc hq (pt_rf dl0)) fun hc908 => (pt_ite (pt_e2 (fun (a b : Int32) => a < b) (pt_I hq (pt_rf dl0) hc908) rfl) (fun _ => (pt_al hq rfl rfl fun a909 m910 n911 d_a909 hc912 hq913 => (pt_ite rfl (fun _ => (zX10_thing_77   _ _ (pt_rf dl0) _ _ rfl _ _ rfl _ _ rfl _ _ rfl _ _ rfl _ _ (pt_rf d_a909) _ _ (pt_rf d_a909) _ _ hq913)) (fun _ => (zX10_thing_77   _ _ (pt_rf dl0) _ _ rfl _ _ rfl _ _ rfl _ _ rfl _ _ rfl _ _ (pt_rf d_a909) _ _ (pt_rf d_a909) _ _ hq913))))) (fun _ => (pt_retV rfl hq))))
theorem zX10_thing {p : Nat → Nat} {v0 r0 : ml_M} : ∀ (l0 l0' : Nat) (hl0 : pt_r p l0 l0') (l1 l1' : Int32) (hl1 : l1 = l1') (l2 l2' : Int32) (hl2 : l2 = l2') (l3 l3' : Int32) (hl3 : l3 = l3') (l4 l4' : Int32) (hl4 : l4 = l4') (l5 l5' : Int32) (hl5 : l5 = l5') (m n : ml_M) (hq : pt_Q p v0 r0 m n), pt_T (pt_WV p v0 r0) (fX10_thing l0 l1 l2 l3 l4 l5 m) (fX10_thing l0' l1' l2' l3' l4' l5' n) := by
  intro l0 l0' hl0 l1 l1' hl1 l2 l2' hl2 l3 l3' hl3 l4 l4' hl4 l5 l5' hl5 m n hq
  obtain ⟨rfl, dl0⟩ := hl0
  subst hl1
  subst hl2
  subst hl3
  subst hl4
  subst hl5
  unfold fX10_thing
  exact (pt_b1 (zX10_areYears _ _ rfl _ _ rfl _ _ hq) fun r914 => (pt_ite rfl (fun _ => (pt_retV rfl hq)) (fun _ => (pt_b1 (zX10_numberOf _ _ rfl _ _ rfl _ _ rfl _ _ hq) fun r915 => (pt_ite rfl (fun _ => (pt_retV rfl hq)) (fun _ => (pt_ite rfl (fun _ => (pt_ck (pt_kc hq (pt_rf dl0)) fun hc916 => (pt_b1 (zX10_isLodger _ _ (pt_rf dl0) _ _ rfl _ _ hq) fun r917 => (pt_ite rfl (fun _ => (pt_retV rfl hq)) (fun _ => (zX10_thing_44   _ _ (pt_rf dl0) _ _ rfl _ _ rfl _ _ rfl _ _ rfl _ _ rfl _ _ hq)))))) (fun _ => (zX10_thing_44   _ _ (pt_rf dl0) _ _ rfl _ _ rfl _ _ rfl _ _ rfl _ _ rfl _ _ hq)))))))))
theorem zX10_isTrunk {p : Nat → Nat} {v0 r0 : ml_M} : ∀ (l0 l0' : Nat) (hl0 : pt_r p l0 l0') (l1 l1' : Int32) (hl1 : l1 = l1') (m n : ml_M) (hq : pt_Q p v0 r0 m n), pt_T pt_Wv (fX10_isTrunk l0 l1 m) (fX10_isTrunk l0' l1' n) := by
  intro l0 l0' hl0 l1 l1' hl1 m n hq
  obtain ⟨rfl, dl0⟩ := hl0
  subst hl1
  unfold fX10_isTrunk
  exact (pt_ck (pt_kc hq (pt_rf dl0)) fun hc918 => (pt_letr (pt_R hq (pt_rf dl0) hc918) fun a919 d_a919 => (pt_ck (pt_kc hq (pt_rf d_a919)) fun hc920 => (pt_b1 (zX10_within _ _ rfl _ _ rfl _ _ (pt_e2 (fun (a b : Int32) => a - b) (pt_I hq (pt_rf d_a919) hc920) rfl) _ _ hq) fun r921 => (pt_ck (pt_z01 rfl) fun _ => (pt_rtv rfl))))))
theorem zX10_lies_26 {p : Nat → Nat} {v0 r0 : ml_M} : ∀ (l0 l0' : Nat) (hl0 : pt_r p l0 l0') (l1 l1' : Int32) (hl1 : l1 = l1') (l2 l2' : Int32) (hl2 : l2 = l2') (l3 l3' : Int32) (hl3 : l3 = l3') (m n : ml_M) (hq : pt_Q p v0 r0 m n), pt_T (pt_WV p v0 r0) (fX10_lies_26 l0 l1 l2 l3 m) (fX10_lies_26 l0' l1' l2' l3' n) := by
  intro l0 l0' hl0 l1 l1' hl1 l2 l2' hl2 l3 l3' hl3 m n hq
  obtain ⟨rfl, dl0⟩ := hl0
  subst hl1
  subst hl2
  subst hl3
  unfold fX10_lies_26
  exact (pt_ck (pt_kc hq (pt_rf dl0)) fun hc922 => (pt_letr (pt_R hq (pt_rf dl0) hc922) fun a923 d_a923 => (pt_ck (pt_in hq (pt_rf d_a923) rfl) fun hi924 => pt_letr (pt_Ra hq (pt_rf d_a923) hi924.1 rfl) fun a925 d_a925 => (pt_ck (pt_kc hq (pt_rf d_a925)) fun hc926 => (pt_letk rfl (pt_sI hq (pt_rf d_a925) rfl) fun m927 n928 em929 hq930 => (pt_letr (pt_R hq930 (pt_rf dl0) (ml_kk em929 hc922)) fun a931 d_a931 => (pt_ck (pt_in hq930 (pt_rf d_a931) rfl) fun hi932 => pt_letr (pt_Ra hq930 (pt_rf d_a931) hi932.1 rfl) fun a933 d_a933 => (pt_ck (pt_kc hq930 (pt_rf d_a933)) fun hc934 => (pt_ck (pt_z01 rfl) fun _ => (pt_letk rfl (pt_sI hq930 (pt_rf d_a933) rfl) fun m935 n936 em937 hq938 => (pt_letr (pt_R hq938 (pt_rf dl0) (ml_kk em937 (ml_kk em929 hc922))) fun a939 d_a939 => (pt_ck (pt_kc hq938 (pt_rf d_a939)) fun hc940 => (pt_letk rfl (pt_sI hq938 (pt_rf d_a939) rfl) fun m941 n942 em943 hq944 => (pt_retV rfl hq944))))))))))))))
theorem zX10_lies {p : Nat → Nat} {v0 r0 : ml_M} : ∀ (l0 l0' : Nat) (hl0 : pt_r p l0 l0') (l1 l1' : Int32) (hl1 : l1 = l1') (l2 l2' : Int32) (hl2 : l2 = l2') (l3 l3' : Int32) (hl3 : l3 = l3') (m n : ml_M) (hq : pt_Q p v0 r0 m n), pt_T (pt_WV p v0 r0) (fX10_lies l0 l1 l2 l3 m) (fX10_lies l0' l1' l2' l3' n) := by
  intro l0 l0' hl0 l1 l1' hl1 l2 l2' hl2 l3 l3' hl3 m n hq
  obtain ⟨rfl, dl0⟩ := hl0
  subst hl1
  subst hl2
  subst hl3
  unfold fX10_lies
  exact (pt_ck (pt_kc hq (pt_rf dl0)) fun hc945 => (pt_b1 (zX10_isThing _ _ (pt_rf dl0) _ _ rfl _ _ hq) fun r946 => (pt_ite rfl (fun _ => (pt_retV rfl hq)) (fun _ => (pt_ite rfl (fun _ => (zX10_lies_26   _ _ (pt_rf dl0) _ _ rfl _ _ rfl _ _ rfl _ _ hq)) (fun _ => (pt_b1 (zX10_isTrunk _ _ (pt_rf dl0) _ _ rfl _ _ hq) fun r947 => (pt_ite rfl (fun _ => (pt_retV rfl hq)) (fun _ => (zX10_lies_26   _ _ (pt_rf dl0) _ _ rfl _ _ rfl _ _ rfl _ _ hq))))))))))
theorem zX10_wear {p : Nat → Nat} {v0 r0 : ml_M} : ∀ (l0 l0' : Nat) (hl0 : pt_r p l0 l0') (l1 l1' : Int32) (hl1 : l1 = l1') (m n : ml_M) (hq : pt_Q p v0 r0 m n), pt_T (pt_WV p v0 r0) (fX10_wear l0 l1 m) (fX10_wear l0' l1' n) := by
  intro l0 l0' hl0 l1 l1' hl1 m n hq
  obtain ⟨rfl, dl0⟩ := hl0
  subst hl1
  unfold fX10_wear
  exact (pt_b1 (zX10_within _ _ rfl _ _ rfl _ _ rfl _ _ hq) fun r948 => (pt_ite rfl (fun _ => (pt_retV rfl hq)) (fun _ => (pt_ck (pt_kc hq (pt_rf dl0)) fun hc949 => (pt_leti (pt_I hq (pt_rf dl0) hc949) fun x950 => (pt_letk rfl (pt_sI hq (pt_rf dl0) rfl) fun m951 n952 em953 hq954 => (pt_retV rfl hq954)))))))
theorem zX10_turns_56 {p : Nat → Nat} {v0 r0 : ml_M} : ∀ (l0 l0' : Nat) (hl0 : pt_r p l0 l0') (l3 l3' : Int32) (hl3 : l3 = l3') (m n : ml_M) (hq : pt_Q p v0 r0 m n), pt_T pt_Wv (fX10_turns_56 l0 l3 m) (fX10_turns_56 l0' l3' n) := by
  intro l0 l0' hl0 l3 l3' hl3 m n hq
  obtain ⟨rfl, dl0⟩ := hl0
  subst hl3
  unfold fX10_turns_56
  exact (pt_ck (pt_kc hq (pt_rf dl0)) fun hc955 => (pt_ite (pt_e2 (fun (a b : Int32) => b < a) rfl (pt_I hq (pt_rf dl0) hc955)) (fun _ => (pt_rtv rfl)) (fun _ => (pt_rtv rfl))))
theorem zX10_turns_5 {p : Nat → Nat} {v0 r0 : ml_M} : ∀ (fu : Nat) (l0 l0' : Nat) (hl0 : pt_r p l0 l0') (l1 l1' : Int32) (hl1 : l1 = l1') (l2 l2' : Int32) (hl2 : l2 = l2') (l3 l3' : Int32) (hl3 : l3 = l3') (l4 l4' : Int32) (hl4 : l4 = l4') (m n : ml_M) (hq : pt_Q p v0 r0 m n), pt_T pt_Wv (fX10_turns_5 fu l0 l1 l2 l3 l4 m) (fX10_turns_5 fu l0' l1' l2' l3' l4' n) := by
  intro fu
  induction fu with
  | zero => intro l0 l0' hl0 l1 l1' hl1 l2 l2' hl2 l3 l3' hl3 l4 l4' hl4 m n hq; exact pt_none
  | succ fu ih =>
  intro l0 l0' hl0 l1 l1' hl1 l2 l2' hl2 l3 l3' hl3 l4 l4' hl4 m n hq
  obtain ⟨rfl, dl0⟩ := hl0
  subst hl1
  subst hl2
  subst hl3
  subst hl4
  have hk5 := ih
  unfold fX10_turns_5
  exact (pt_ite rfl (fun _ => (zX10_turns_56   _ _ (pt_rf dl0) _ _ rfl _ _ hq)) (fun _ => (pt_ck (pt_nzI rfl) fun _ => (pt_ck (pt_nzI rfl) fun _ => (pt_leti rfl fun x956 => (pt_ite rfl (fun _ => (pt_leti rfl fun x957 => (pt_leti rfl fun x958 => (hk5 _ _ (pt_rf dl0) _ _ rfl _ _ rfl _ _ rfl _ _ rfl _ _ hq)))) (fun _ => (pt_rtv rfl))))))))
theorem zX10_turns {p : Nat → Nat} {v0 r0 : ml_M} : ∀ (l0 l0' : Nat) (hl0 : pt_r p l0 l0') (l1 l1' : Int32) (hl1 : l1 = l1') (l2 l2' : Int32) (hl2 : l2 = l2') (m n : ml_M) (hq : pt_Q p v0 r0 m n), pt_T pt_Wv (fX10_turns l0 l1 l2 m) (fX10_turns l0' l1' l2' n) := by
  intro l0 l0' hl0 l1 l1' hl1 l2 l2' hl2 m n hq
  obtain ⟨rfl, dl0⟩ := hl0
  subst hl1
  subst hl2
  unfold fX10_turns
  exact (zX10_turns_5  ml_fu _ _ (pt_rf dl0) _ _ rfl _ _ rfl _ _ rfl _ _ rfl _ _ hq)
theorem zX10_opened_44 {p : Nat → Nat} {v0 r0 : ml_M} {k4 k4' : Nat → Nat → Int32 → Int32 → ml_M → Option Int32} (hk4 : ∀ (l0 l0' : Nat) (hl0 : pt_r p l0 l0') (l1 l1' : Nat) (hl1 : pt_r p l1 l1') (l2 l2' : Int32) (hl2 : l2 = l2') (l3 l3' : Int32) (hl3 : l3 = l3') (m n : ml_M) (hq : pt_Q p v0 r0 m n), pt_T pt_Wv (k4 l0 l1 l2 l3 m) (k4' l0' l1' l2' l3' n)) : ∀ (l0 l0' : Nat) (hl0 : pt_r p l0 l0') (l1 l1' : Nat) (hl1 : pt_r p l1 l1') (l2 l2' : Int32) (hl2 : l2 = l2') (l3 l3' : Int32) (hl3 : l3 = l3') (m n : ml_M) (hq : pt_Q p v0 r0 m n), pt_T pt_Wv (fX10_opened_44 k4 l0 l1 l2 l3 m) (fX10_opened_44 k4' l0' l1' l2' l3' n) := by
  intro l0 l0' hl0 l1 l1' hl1 l2 l2' hl2 l3 l3' hl3 m n hq
  obtain ⟨rfl, dl0⟩ := hl0
  obtain ⟨rfl, dl1⟩ := hl1
  subst hl2
  subst hl3
  unfold fX10_opened_44
  exact (hk4 _ _ (pt_rf dl0) _ _ (pt_rf dl1) _ _ rfl _ _ rfl _ _ hq)
theorem zX10_opened_4 {p : Nat → Nat} {v0 r0 : ml_M} : ∀ (fu : Nat) (l0 l0' : Nat) (hl0 : pt_r p l0 l0') (l1 l1' : Nat) (hl1 : pt_r p l1 l1') (l2 l2' : Int32) (hl2 : l2 = l2') (l3 l3' : Int32) (hl3 : l3 = l3') (m n : ml_M) (hq : pt_Q p v0 r0 m n), pt_T pt_Wv (fX10_opened_4 fu l0 l1 l2 l3 m) (fX10_opened_4 fu l0' l1' l2' l3' n) := by
  intro fu
  induction fu with
  | zero => intro l0 l0' hl0 l1 l1' hl1 l2 l2' hl2 l3 l3' hl3 m n hq; exact pt_none
  | succ fu ih =>
  intro l0 l0' hl0 l1 l1' hl1 l2 l2' hl2 l3 l3' hl3 m n hq
  obtain ⟨rfl, dl0⟩ := hl0
  obtain ⟨rfl, dl1⟩ := hl1
  subst hl2
  subst hl3
  have hk4 := ih
  unfold fX10_opened_4
  exact (pt_ck (pt_kc hq (pt_rf dl0)) fun hc959 => (pt_letr (pt_R hq (pt_rf dl0) hc959) fun a960 d_a960 => (pt_ck (pt_kc hq (pt_rf d_a960)) fun hc961 => (pt_ite (pt_e2 (fun (a b : Int32) => b ≤ a) rfl (pt_I hq (pt_rf d_a960) hc961)) (fun _ => (pt_rtv rfl)) (fun _ => (pt_ck (pt_kc hq (pt_rf dl1)) fun hc962 => (pt_letr (pt_R hq (pt_rf dl0) hc959) fun a963 d_a963 => (pt_ck (pt_kc hq (pt_rf d_a963)) fun hc964 => (pt_letr (pt_R hq (pt_rf d_a963) hc964) fun a965 d_a965 => (pt_ck (pt_in hq (pt_rf d_a965) rfl) fun hi966 => pt_letr (pt_Ra hq (pt_rf d_a965) hi966.1 rfl) fun a967 d_a967 => (pt_ck (pt_kc hq (pt_rf d_a967)) fun hc968 => (pt_b1 (zX10_turns _ _ (pt_rf dl0) _ _ (pt_I hq (pt_rf dl1) hc962) _ _ (pt_I hq (pt_rf d_a967) hc968) _ _ hq) fun r969 => (pt_ite rfl (fun _ => (zX10_opened_44 hk4  _ _ (pt_rf dl0) _ _ (pt_rf dl1) _ _ rfl _ _ rfl _ _ hq)) (fun _ => (pt_leti rfl fun x970 => (zX10_opened_44 hk4  _ _ (pt_rf dl0) _ _ (pt_rf dl1) _ _ rfl _ _ rfl _ _ hq))))))))))))))))
theorem zX10_opened {p : Nat → Nat} {v0 r0 : ml_M} : ∀ (l0 l0' : Nat) (hl0 : pt_r p l0 l0') (l1 l1' : Nat) (hl1 : pt_r p l1 l1') (m n : ml_M) (hq : pt_Q p v0 r0 m n), pt_T pt_Wv (fX10_opened l0 l1 m) (fX10_opened l0' l1' n) := by
  intro l0 l0' hl0 l1 l1' hl1 m n hq
  obtain ⟨rfl, dl0⟩ := hl0
  obtain ⟨rfl, dl1⟩ := hl1
  unfold fX10_opened
  exact (zX10_opened_4  ml_fu _ _ (pt_rf dl0) _ _ (pt_rf dl1) _ _ rfl _ _ rfl _ _ hq)
theorem zX10_opens {p : Nat → Nat} {v0 r0 : ml_M} : ∀ (l0 l0' : Nat) (hl0 : pt_r p l0 l0') (l1 l1' : Int32) (hl1 : l1 = l1') (m n : ml_M) (hq : pt_Q p v0 r0 m n), pt_T (pt_WV p v0 r0) (fX10_opens l0 l1 m) (fX10_opens l0' l1' n) := by
  intro l0 l0' hl0 l1 l1' hl1 m n hq
  obtain ⟨rfl, dl0⟩ := hl0
  subst hl1
  unfold fX10_opens
  exact (pt_ck (pt_kc hq (pt_rf dl0)) fun hc971 => (pt_b1 (zX10_isThing _ _ (pt_rf dl0) _ _ rfl _ _ hq) fun r972 => (pt_ite rfl (fun _ => (pt_retV rfl hq)) (fun _ => (pt_letr (pt_R hq (pt_rf dl0) hc971) fun a973 d_a973 => (pt_ck (pt_in hq (pt_rf d_a973) rfl) fun hi974 => pt_letr (pt_Ra hq (pt_rf d_a973) hi974.1 rfl) fun a975 d_a975 => (pt_ck (pt_kc hq (pt_rf d_a975)) fun hc976 => (pt_ite (pt_e2 (fun (a b : Int32) => a = b) (pt_I hq (pt_rf d_a975) hc976) rfl) (fun _ => (pt_letr (pt_R hq (pt_rf dl0) hc971) fun a981 d_a981 => (pt_ck (pt_in hq (pt_rf d_a981) rfl) fun hi982 => pt_letr (pt_Ra hq (pt_rf d_a981) hi982.1 rfl) fun a983 d_a983 => (pt_b1 (zX10_opened _ _ (pt_rf dl0) _ _ (pt_rf d_a983) _ _ hq) fun r984 => (pt_retV rfl hq))))) (fun _ => (pt_b2 (zX10_found _ _ (pt_rf dl0) _ _ rfl _ _ hq) fun r977 m978 n979 hq980 => (pt_retV rfl hq980)))))))))))
theorem zX10_isRow {p : Nat → Nat} {v0 r0 : ml_M} : ∀ (l0 l0' : Int32) (hl0 : l0 = l0') (m n : ml_M) (hq : pt_Q p v0 r0 m n), pt_T pt_Wv (fX10_isRow l0 m) (fX10_isRow l0' n) := by
  intro l0 l0' hl0 m n hq
  subst hl0
  unfold fX10_isRow
  exact (pt_b1 (zX10_within _ _ rfl _ _ rfl _ _ rfl _ _ hq) fun r985 => (pt_ck (pt_z01 rfl) fun _ => (pt_rtv rfl)))
theorem zX7_compareYears_88 {p : Nat → Nat} {v0 r0 : ml_M} {k2 k2' : Nat → Nat → Int32 → ml_M → Option ml_M} (hk2 : ∀ (l0 l0' : Nat) (hl0 : pt_r p l0 l0') (l1 l1' : Nat) (hl1 : pt_r p l1 l1') (l2 l2' : Int32) (hl2 : l2 = l2') (m n : ml_M) (hq : pt_Q p v0 r0 m n), pt_T (pt_WM p v0 r0) (k2 l0 l1 l2 m) (k2' l0' l1' l2' n)) {k26 k26' : Nat → Nat → Int32 → Int32 → ml_M → Option ml_M} (hk26 : ∀ (l0 l0' : Nat) (hl0 : pt_r p l0 l0') (l1 l1' : Nat) (hl1 : pt_r p l1 l1') (l2 l2' : Int32) (hl2 : l2 = l2') (l3 l3' : Int32) (hl3 : l3 = l3') (m n : ml_M) (hq : pt_Q p v0 r0 m n), pt_T (pt_WM p v0 r0) (k26 l0 l1 l2 l3 m) (k26' l0' l1' l2' l3' n)) : ∀ (l0 l0' : Nat) (hl0 : pt_r p l0 l0') (l1 l1' : Nat) (hl1 : pt_r p l1 l1') (l2 l2' : Int32) (hl2 : l2 = l2') (l3 l3' : Int32) (hl3 : l3 = l3') (m n : ml_M) (hq : pt_Q p v0 r0 m n), pt_T (pt_WM p v0 r0) (fX7_compareYears_88 k2 k26 l0 l1 l2 l3 m) (fX7_compareYears_88 k2' k26' l0' l1' l2' l3' n) := by
  intro l0 l0' hl0 l1 l1' hl1 l2 l2' hl2 l3 l3' hl3 m n hq
  obtain ⟨rfl, dl0⟩ := hl0
  obtain ⟨rfl, dl1⟩ := hl1
  subst hl2
  subst hl3
  unfold fX7_compareYears_88
  exact (hk26 _ _ (pt_rf dl0) _ _ (pt_rf dl1) _ _ rfl _ _ rfl _ _ hq)
theorem zX7_compareYears_61 {p : Nat → Nat} {v0 r0 : ml_M} {k2 k2' : Nat → Nat → Int32 → ml_M → Option ml_M} (hk2 : ∀ (l0 l0' : Nat) (hl0 : pt_r p l0 l0') (l1 l1' : Nat) (hl1 : pt_r p l1 l1') (l2 l2' : Int32) (hl2 : l2 = l2') (m n : ml_M) (hq : pt_Q p v0 r0 m n), pt_T (pt_WM p v0 r0) (k2 l0 l1 l2 m) (k2' l0' l1' l2' n)) {k26 k26' : Nat → Nat → Int32 → Int32 → ml_M → Option ml_M} (hk26 : ∀ (l0 l0' : Nat) (hl0 : pt_r p l0 l0') (l1 l1' : Nat) (hl1 : pt_r p l1 l1') (l2 l2' : Int32) (hl2 : l2 = l2') (l3 l3' : Int32) (hl3 : l3 = l3') (m n : ml_M) (hq : pt_Q p v0 r0 m n), pt_T (pt_WM p v0 r0) (k26 l0 l1 l2 l3 m) (k26' l0' l1' l2' l3' n)) : ∀ (l0 l0' : Nat) (hl0 : pt_r p l0 l0') (l1 l1' : Nat) (hl1 : pt_r p l1 l1') (l2 l2' : Int32) (hl2 : l2 = l2') (l3 l3' : Int32) (hl3 : l3 = l3') (m n : ml_M) (hq : pt_Q p v0 r0 m n), pt_T (pt_WM p v0 r0) (fX7_compareYears_61 k2 k26 l0 l1 l2 l3 m) (fX7_compareYears_61 k2' k26' l0' l1' l2' l3' n) := by
  intro l0 l0' hl0 l1 l1' hl1 l2 l2' hl2 l3 l3' hl3 m n hq
  obtain ⟨rfl, dl0⟩ := hl0
  obtain ⟨rfl, dl1⟩ := hl1
  subst hl2
  subst hl3
  unfold fX7_compareYears_61
  exact (pt_ck (pt_in hq (pt_rf dl1) rfl) fun hi986 => pt_letr (pt_Ra hq (pt_rf dl1) hi986.1 rfl) fun a987 d_a987 => (pt_ck (pt_kc hq (pt_rf d_a987)) fun hc988 => (pt_ck (pt_in hq (pt_rf dl1) rfl) fun hi989 => pt_letr (pt_Ra hq (pt_rf dl1) hi989.1 rfl) fun a990 d_a990 => (pt_ck (pt_kc hq (pt_rf d_a990)) fun hc991 => (pt_ite (pt_e2 (fun (a b : Int32) => b < a) (pt_I hq (pt_rf d_a987) hc988) (pt_I hq (pt_rf d_a990) hc991)) (fun _ => (zX7_compareYears_88 hk2 hk26  _ _ (pt_rf dl0) _ _ (pt_rf dl1) _ _ rfl _ _ rfl _ _ hq)) (fun _ => (pt_ck (pt_kc hq (pt_rf dl0)) fun hc992 => (pt_letr (pt_R hq (pt_rf dl0) hc992) fun a993 d_a993 => (pt_ck (pt_in hq (pt_rf d_a993) rfl) fun hi994 => (pt_ck (pt_in hq (pt_rf d_a993) rfl) fun hi995 => (pt_letk rfl (pt_sIa hq (pt_rf d_a993) rfl (pt_e2 (fun (a b : Int32) => a ||| b) (pt_Ia hq (pt_rf d_a993) hi994.1 rfl) rfl)) fun m996 n997 em998 hq999 => (zX7_compareYears_88 hk2 hk26  _ _ (pt_rf dl0) _ _ (pt_rf dl1) _ _ rfl _ _ rfl _ _ hq999))))))))))))
theorem zX7_compareYears_94 {p : Nat → Nat} {v0 r0 : ml_M} {k2 k2' : Nat → Nat → Int32 → ml_M → Option ml_M} (hk2 : ∀ (l0 l0' : Nat) (hl0 : pt_r p l0 l0') (l1 l1' : Nat) (hl1 : pt_r p l1 l1') (l2 l2' : Int32) (hl2 : l2 = l2') (m n : ml_M) (hq : pt_Q p v0 r0 m n), pt_T (pt_WM p v0 r0) (k2 l0 l1 l2 m) (k2' l0' l1' l2' n)) : ∀ (l0 l0' : Nat) (hl0 : pt_r p l0 l0') (l1 l1' : Nat) (hl1 : pt_r p l1 l1') (l2 l2' : Int32) (hl2 : l2 = l2') (m n : ml_M) (hq : pt_Q p v0 r0 m n), pt_T (pt_WM p v0 r0) (fX7_compareYears_94 k2 l0 l1 l2 m) (fX7_compareYears_94 k2' l0' l1' l2' n) := by
  intro l0 l0' hl0 l1 l1' hl1 l2 l2' hl2 m n hq
  obtain ⟨rfl, dl0⟩ := hl0
  obtain ⟨rfl, dl1⟩ := hl1
  subst hl2
  unfold fX7_compareYears_94
  exact (hk2 _ _ (pt_rf dl0) _ _ (pt_rf dl1) _ _ rfl _ _ hq)
theorem zX7_compareYears_26 {p : Nat → Nat} {v0 r0 : ml_M} {k2 k2' : Nat → Nat → Int32 → ml_M → Option ml_M} (hk2 : ∀ (l0 l0' : Nat) (hl0 : pt_r p l0 l0') (l1 l1' : Nat) (hl1 : pt_r p l1 l1') (l2 l2' : Int32) (hl2 : l2 = l2') (m n : ml_M) (hq : pt_Q p v0 r0 m n), pt_T (pt_WM p v0 r0) (k2 l0 l1 l2 m) (k2' l0' l1' l2' n)) : ∀ (fu : Nat) (l0 l0' : Nat) (hl0 : pt_r p l0 l0') (l1 l1' : Nat) (hl1 : pt_r p l1 l1') (l2 l2' : Int32) (hl2 : l2 = l2') (l3 l3' : Int32) (hl3 : l3 = l3') (m n : ml_M) (hq : pt_Q p v0 r0 m n), pt_T (pt_WM p v0 r0) (fX7_compareYears_26 k2 fu l0 l1 l2 l3 m) (fX7_compareYears_26 k2' fu l0' l1' l2' l3' n) := by
  intro fu
  induction fu with
  | zero => intro l0 l0' hl0 l1 l1' hl1 l2 l2' hl2 l3 l3' hl3 m n hq; exact pt_none
  | succ fu ih =>
  intro l0 l0' hl0 l1 l1' hl1 l2 l2' hl2 l3 l3' hl3 m n hq
  obtain ⟨rfl, dl0⟩ := hl0
  obtain ⟨rfl, dl1⟩ := hl1
  subst hl2
  subst hl3
  have hk26 := ih
  unfold fX7_compareYears_26
  exact (pt_ck (pt_kc hq (pt_rf dl0)) fun hc1000 => (pt_ite (pt_e2 (fun (a b : Int32) => b ≤ a) rfl (pt_I hq (pt_rf dl0) hc1000)) (fun _ => (zX7_compareYears_94 hk2  _ _ (pt_rf dl0) _ _ (pt_rf dl1) _ _ rfl _ _ hq)) (fun _ => (pt_ck (pt_in hq (pt_rf dl1) rfl) fun hi1001 => pt_letr (pt_Ra hq (pt_rf dl1) hi1001.1 rfl) fun a1002 d_a1002 => (pt_ck (pt_kc hq (pt_rf d_a1002)) fun hc1003 => (pt_ck (pt_in hq (pt_rf dl1) rfl) fun hi1004 => pt_letr (pt_Ra hq (pt_rf dl1) hi1004.1 rfl) fun a1005 d_a1005 => (pt_ck (pt_kc hq (pt_rf d_a1005)) fun hc1006 => (pt_ite (pt_e2 (fun (a b : Int32) => a < b) (pt_I hq (pt_rf d_a1002) hc1003) (pt_I hq (pt_rf d_a1005) hc1006)) (fun _ => (zX7_compareYears_61 hk2 hk26  _ _ (pt_rf dl0) _ _ (pt_rf dl1) _ _ rfl _ _ rfl _ _ hq)) (fun _ => (pt_letr (pt_R hq (pt_rf dl0) hc1000) fun a1007 d_a1007 => (pt_ck (pt_in hq (pt_rf d_a1007) rfl) fun hi1008 => (pt_ck (pt_in hq (pt_rf d_a1007) rfl) fun hi1009 => (pt_letk rfl (pt_sIa hq (pt_rf d_a1007) rfl (pt_e2 (fun (a b : Int32) => a ||| b) (pt_Ia hq (pt_rf d_a1007) hi1008.1 rfl) rfl)) fun m1010 n1011 em1012 hq1013 => (zX7_compareYears_61 hk2 hk26  _ _ (pt_rf dl0) _ _ (pt_rf dl1) _ _ rfl _ _ rfl _ _ hq1013))))))))))))))
theorem zX7_compareYears_2 {p : Nat → Nat} {v0 r0 : ml_M} : ∀ (fu : Nat) (l0 l0' : Nat) (hl0 : pt_r p l0 l0') (l1 l1' : Nat) (hl1 : pt_r p l1 l1') (l2 l2' : Int32) (hl2 : l2 = l2') (m n : ml_M) (hq : pt_Q p v0 r0 m n), pt_T (pt_WM p v0 r0) (fX7_compareYears_2 fu l0 l1 l2 m) (fX7_compareYears_2 fu l0' l1' l2' n) := by
  intro fu
  induction fu with
  | zero => intro l0 l0' hl0 l1 l1' hl1 l2 l2' hl2 m n hq; exact pt_none
  | succ fu ih =>
  intro l0 l0' hl0 l1 l1' hl1 l2 l2' hl2 m n hq
  obtain ⟨rfl, dl0⟩ := hl0
  obtain ⟨rfl, dl1⟩ := hl1
  subst hl2
  have hk2 := ih
  unfold fX7_compareYears_2
  exact (pt_ck (pt_kc hq (pt_rf dl0)) fun hc1014 => (pt_ite (pt_e2 (fun (a b : Int32) => b ≤ a) rfl (pt_I hq (pt_rf dl0) hc1014)) (fun _ => (pt_retM hq)) (fun _ => (pt_letr (pt_R hq (pt_rf dl0) hc1014) fun a1015 d_a1015 => (pt_ck (pt_in hq (pt_rf d_a1015) rfl) fun hi1016 => (pt_letk rfl (pt_sIa hq (pt_rf d_a1015) rfl rfl) fun m1017 n1018 em1019 hq1020 => (pt_letr (pt_R hq1020 (pt_rf dl0) (ml_kk em1019 hc1014)) fun a1021 d_a1021 => (pt_ck (pt_in hq1020 (pt_rf d_a1021) rfl) fun hi1022 => (pt_letk rfl (pt_sIa hq1020 (pt_rf d_a1021) rfl rfl) fun m1023 n1024 em1025 hq1026 => (zX7_compareYears_26 hk2 ml_fu _ _ (pt_rf dl0) _ _ (pt_rf dl1) _ _ rfl _ _ rfl _ _ hq1026))))))))))
theorem zX7_compareYears {p : Nat → Nat} {v0 r0 : ml_M} : ∀ (l0 l0' : Nat) (hl0 : pt_r p l0 l0') (l1 l1' : Nat) (hl1 : pt_r p l1 l1') (m n : ml_M) (hq : pt_Q p v0 r0 m n), pt_T (pt_WM p v0 r0) (fX7_compareYears l0 l1 m) (fX7_compareYears l0' l1' n) := by
  intro l0 l0' hl0 l1 l1' hl1 m n hq
  obtain ⟨rfl, dl0⟩ := hl0
  obtain ⟨rfl, dl1⟩ := hl1
  unfold fX7_compareYears
  exact (zX7_compareYears_2  ml_fu _ _ (pt_rf dl0) _ _ (pt_rf dl1) _ _ rfl _ _ hq)
theorem zX10_has {p : Nat → Nat} {v0 r0 : ml_M} : ∀ (l0 l0' : Int32) (hl0 : l0 = l0') (l1 l1' : Int32) (hl1 : l1 = l1') (m n : ml_M) (hq : pt_Q p v0 r0 m n), pt_T pt_Wv (fX10_has l0 l1 m) (fX10_has l0' l1' n) := by
  intro l0 l0' hl0 l1 l1' hl1 m n hq
  subst hl0
  subst hl1
  unfold fX10_has
  exact (pt_ite rfl (fun _ => (pt_rtv rfl)) (fun _ => (pt_rtv rfl)))
theorem zX7_countStrangers_78 {p : Nat → Nat} {v0 r0 : ml_M} {k10 k10' : Nat → Nat → Int32 → Int32 → ml_M → Option ml_M} (hk10 : ∀ (l0 l0' : Nat) (hl0 : pt_r p l0 l0') (l1 l1' : Nat) (hl1 : pt_r p l1 l1') (l2 l2' : Int32) (hl2 : l2 = l2') (l3 l3' : Int32) (hl3 : l3 = l3') (m n : ml_M) (hq : pt_Q p v0 r0 m n), pt_T (pt_WM p v0 r0) (k10 l0 l1 l2 l3 m) (k10' l0' l1' l2' l3' n)) {k36 k36' : Nat → Nat → Int32 → Int32 → Nat → Int32 → ml_M → Option ml_M} (hk36 : ∀ (l0 l0' : Nat) (hl0 : pt_r p l0 l0') (l1 l1' : Nat) (hl1 : pt_r p l1 l1') (l2 l2' : Int32) (hl2 : l2 = l2') (l3 l3' : Int32) (hl3 : l3 = l3') (l4 l4' : Nat) (hl4 : pt_r p l4 l4') (l5 l5' : Int32) (hl5 : l5 = l5') (m n : ml_M) (hq : pt_Q p v0 r0 m n), pt_T (pt_WM p v0 r0) (k36 l0 l1 l2 l3 l4 l5 m) (k36' l0' l1' l2' l3' l4' l5' n)) : ∀ (l0 l0' : Nat) (hl0 : pt_r p l0 l0') (l1 l1' : Nat) (hl1 : pt_r p l1 l1') (l2 l2' : Int32) (hl2 : l2 = l2') (l3 l3' : Int32) (hl3 : l3 = l3') (l4 l4' : Nat) (hl4 : pt_r p l4 l4') (l5 l5' : Int32) (hl5 : l5 = l5') (m n : ml_M) (hq : pt_Q p v0 r0 m n), pt_T (pt_WM p v0 r0) (fX7_countStrangers_78 k10 k36 l0 l1 l2 l3 l4 l5 m) (fX7_countStrangers_78 k10' k36' l0' l1' l2' l3' l4' l5' n) := by
  intro l0 l0' hl0 l1 l1' hl1 l2 l2' hl2 l3 l3' hl3 l4 l4' hl4 l5 l5' hl5 m n hq
  obtain ⟨rfl, dl0⟩ := hl0
  obtain ⟨rfl, dl1⟩ := hl1
  subst hl2
  subst hl3
  obtain ⟨rfl, dl4⟩ := hl4
  subst hl5
  unfold fX7_countStrangers_78
  exact (hk36 _ _ (pt_rf dl0) _ _ (pt_rf dl1) _ _ rfl _ _ rfl _ _ (pt_rf dl4) _ _ rfl _ _ hq)
theorem zX7_countStrangers_84 {p : Nat → Nat} {v0 r0 : ml_M} {k10 k10' : Nat → Nat → Int32 → Int32 → ml_M → Option ml_M} (hk10 : ∀ (l0 l0' : Nat) (hl0 : pt_r p l0 l0') (l1 l1' : Nat) (hl1 : pt_r p l1 l1') (l2 l2' : Int32) (hl2 : l2 = l2') (l3 l3' : Int32) (hl3 : l3 = l3') (m n : ml_M) (hq : pt_Q p v0 r0 m n), pt_T (pt_WM p v0 r0) (k10 l0 l1 l2 l3 m) (k10' l0' l1' l2' l3' n)) : ∀ (l0 l0' : Nat) (hl0 : pt_r p l0 l0') (l1 l1' : Nat) (hl1 : pt_r p l1 l1') (l2 l2' : Int32) (hl2 : l2 = l2') (l3 l3' : Int32) (hl3 : l3 = l3') (m n : ml_M) (hq : pt_Q p v0 r0 m n), pt_T (pt_WM p v0 r0) (fX7_countStrangers_84 k10 l0 l1 l2 l3 m) (fX7_countStrangers_84 k10' l0' l1' l2' l3' n) := by
  intro l0 l0' hl0 l1 l1' hl1 l2 l2' hl2 l3 l3' hl3 m n hq
  obtain ⟨rfl, dl0⟩ := hl0
  obtain ⟨rfl, dl1⟩ := hl1
  subst hl2
  subst hl3
  unfold fX7_countStrangers_84
  exact (hk10 _ _ (pt_rf dl0) _ _ (pt_rf dl1) _ _ rfl _ _ rfl _ _ hq)
theorem zX7_countStrangers_36 {p : Nat → Nat} {v0 r0 : ml_M} {k10 k10' : Nat → Nat → Int32 → Int32 → ml_M → Option ml_M} (hk10 : ∀ (l0 l0' : Nat) (hl0 : pt_r p l0 l0') (l1 l1' : Nat) (hl1 : pt_r p l1 l1') (l2 l2' : Int32) (hl2 : l2 = l2') (l3 l3' : Int32) (hl3 : l3 = l3') (m n : ml_M) (hq : pt_Q p v0 r0 m n), pt_T (pt_WM p v0 r0) (k10 l0 l1 l2 l3 m) (k10' l0' l1' l2' l3' n)) : ∀ (fu : Nat) (l0 l0' : Nat) (hl0 : pt_r p l0 l0') (l1 l1' : Nat) (hl1 : pt_r p l1 l1') (l2 l2' : Int32) (hl2 : l2 = l2') (l3 l3' : Int32) (hl3 : l3 = l3') (l4 l4' : Nat) (hl4 : pt_r p l4 l4') (l5 l5' : Int32) (hl5 : l5 = l5') (m n : ml_M) (hq : pt_Q p v0 r0 m n), pt_T (pt_WM p v0 r0) (fX7_countStrangers_36 k10 fu l0 l1 l2 l3 l4 l5 m) (fX7_countStrangers_36 k10' fu l0' l1' l2' l3' l4' l5' n) := by
  intro fu
  induction fu with
  | zero => intro l0 l0' hl0 l1 l1' hl1 l2 l2' hl2 l3 l3' hl3 l4 l4' hl4 l5 l5' hl5 m n hq; exact pt_none
  | succ fu ih =>
  intro l0 l0' hl0 l1 l1' hl1 l2 l2' hl2 l3 l3' hl3 l4 l4' hl4 l5 l5' hl5 m n hq
  obtain ⟨rfl, dl0⟩ := hl0
  obtain ⟨rfl, dl1⟩ := hl1
  subst hl2
  subst hl3
  obtain ⟨rfl, dl4⟩ := hl4
  subst hl5
  have hk36 := ih
  unfold fX7_countStrangers_36
  exact (pt_ck (pt_kc hq (pt_rf dl0)) fun hc1027 => (pt_ite (pt_e2 (fun (a b : Int32) => b ≤ a) rfl (pt_I hq (pt_rf dl0) hc1027)) (fun _ => (zX7_countStrangers_84 hk10  _ _ (pt_rf dl0) _ _ (pt_rf dl1) _ _ rfl _ _ rfl _ _ hq)) (fun _ => (pt_ck (pt_kc hq (pt_rf dl4)) fun hc1028 => (pt_b1 (zX10_has _ _ (pt_I hq (pt_rf dl4) hc1028) _ _ rfl _ _ hq) fun r1029 => (pt_ite rfl (fun _ => (pt_letr (pt_R hq (pt_rf dl0) hc1027) fun a1030 d_a1030 => (pt_ck (pt_in hq (pt_rf d_a1030) (pt_e2 (fun (a b : Int32) => a + b) (pt_e2 (fun (a b : Int32) => a * b) (pt_I hq (pt_rf dl4) hc1028) rfl) rfl)) fun hi1031 => (pt_ck (pt_in hq (pt_rf d_a1030) (pt_e2 (fun (a b : Int32) => a + b) (pt_e2 (fun (a b : Int32) => a * b) (pt_I hq (pt_rf dl4) hc1028) rfl) rfl)) fun hi1032 => (pt_letk rfl (pt_sIa hq (pt_rf d_a1030) (pt_e2 (fun (a b : Int32) => a + b) (pt_e2 (fun (a b : Int32) => a * b) (pt_I hq (pt_rf dl4) hc1028) rfl) rfl) (pt_e2 (fun (a b : Int32) => a + b) (pt_Ia hq (pt_rf d_a1030) hi1031.1 (pt_e2 (fun (a b : Int32) => a + b) (pt_e2 (fun (a b : Int32) => a * b) (pt_I hq (pt_rf dl4) hc1028) rfl) rfl)) rfl)) fun m1033 n1034 em1035 hq1036 => (zX7_countStrangers_78 hk10 hk36  _ _ (pt_rf dl0) _ _ (pt_rf dl1) _ _ rfl _ _ rfl _ _ (pt_rf dl4) _ _ rfl _ _ hq1036)))))) (fun _ => (zX7_countStrangers_78 hk10 hk36  _ _ (pt_rf dl0) _ _ (pt_rf dl1) _ _ rfl _ _ rfl _ _ (pt_rf dl4) _ _ rfl _ _ hq))))))))
theorem zX7_countStrangers_10 {p : Nat → Nat} {v0 r0 : ml_M} : ∀ (fu : Nat) (l0 l0' : Nat) (hl0 : pt_r p l0 l0') (l1 l1' : Nat) (hl1 : pt_r p l1 l1') (l2 l2' : Int32) (hl2 : l2 = l2') (l3 l3' : Int32) (hl3 : l3 = l3') (m n : ml_M) (hq : pt_Q p v0 r0 m n), pt_T (pt_WM p v0 r0) (fX7_countStrangers_10 fu l0 l1 l2 l3 m) (fX7_countStrangers_10 fu l0' l1' l2' l3' n) := by
  intro fu
  induction fu with
  | zero => intro l0 l0' hl0 l1 l1' hl1 l2 l2' hl2 l3 l3' hl3 m n hq; exact pt_none
  | succ fu ih =>
  intro l0 l0' hl0 l1 l1' hl1 l2 l2' hl2 l3 l3' hl3 m n hq
  obtain ⟨rfl, dl0⟩ := hl0
  obtain ⟨rfl, dl1⟩ := hl1
  subst hl2
  subst hl3
  have hk10 := ih
  unfold fX7_countStrangers_10
  exact (pt_ite rfl (fun _ => (pt_retM hq)) (fun _ => (pt_ck (pt_in hq (pt_rf dl1) rfl) fun hi1037 => pt_letr (pt_Ra hq (pt_rf dl1) hi1037.1 rfl) fun a1038 d_a1038 => (pt_ck (pt_kc hq (pt_rf d_a1038)) fun hc1039 => (pt_ite (pt_e2 (fun (a b : Int32) => a = b) (pt_I hq (pt_rf d_a1038) hc1039) rfl) (fun _ => (zX7_countStrangers_84 hk10  _ _ (pt_rf dl0) _ _ (pt_rf dl1) _ _ rfl _ _ rfl _ _ hq)) (fun _ => (zX7_countStrangers_36 hk10 ml_fu _ _ (pt_rf dl0) _ _ (pt_rf dl1) _ _ rfl _ _ rfl _ _ (pt_rf d_a1038) _ _ rfl _ _ hq)))))))
theorem zX7_countStrangers {p : Nat → Nat} {v0 r0 : ml_M} : ∀ (l0 l0' : Nat) (hl0 : pt_r p l0 l0') (l1 l1' : Nat) (hl1 : pt_r p l1 l1') (l2 l2' : Int32) (hl2 : l2 = l2') (m n : ml_M) (hq : pt_Q p v0 r0 m n), pt_T (pt_WM p v0 r0) (fX7_countStrangers l0 l1 l2 m) (fX7_countStrangers l0' l1' l2' n) := by
  intro l0 l0' hl0 l1 l1' hl1 l2 l2' hl2 m n hq
  obtain ⟨rfl, dl0⟩ := hl0
  obtain ⟨rfl, dl1⟩ := hl1
  subst hl2
  unfold fX7_countStrangers
  exact (pt_ck (pt_kc hq (pt_rf dl0)) fun hc1040 => (pt_letr (pt_R hq (pt_rf dl0) hc1040) fun a1041 d_a1041 => (pt_b1m (zJ7_fill_53178 _ _ (pt_rf d_a1041) _ _ rfl _ _ hq) fun m1042 n1043 hq1044 => (zX7_countStrangers_10  ml_fu _ _ (pt_rf dl0) _ _ (pt_rf dl1) _ _ rfl _ _ rfl _ _ hq1044))))

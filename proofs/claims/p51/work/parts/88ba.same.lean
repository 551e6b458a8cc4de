/-! printed by wip/p51/emit2.py: the class does the same in memories that hold the same -/
theorem zJ6_bitCount_0f7a4 {p : Nat → Nat} {v0 r0 : ml_M} : ∀ (l0 l0' : Int32) (hl0 : l0 = l0') (m n : ml_M) (hq : pt_Q p v0 r0 m n), pt_T pt_Wv (fJ6_bitCount_0f7a4 l0 m) (fJ6_bitCount_0f7a4 l0' n) := by
  intro l0 l0' hl0 m n hq
  subst hl0
  unfold fJ6_bitCount_0f7a4
  exact (pt_leti rfl fun x1 => (pt_leti rfl fun x2 => (pt_leti rfl fun x3 => (pt_leti rfl fun x4 => (pt_leti rfl fun x5 => (pt_rtv rfl))))))
theorem zJ7_copyOf_59c91 {p : Nat → Nat} {v0 r0 : ml_M} : ∀ (l0 l0' : Nat) (hl0 : pt_r p l0 l0') (l1 l1' : Int32) (hl1 : l1 = l1') (m n : ml_M) (hq : pt_Q p v0 r0 m n) (bl0 : l0 ≤ ml_n m), pt_T (pt_WR p v0 r0) (fJ7_copyOf_59c91 l0 l1 m) (fJ7_copyOf_59c91 l0' l1' n) := by
  intro l0 l0' hl0 l1 l1' hl1 m n hq bl0
  obtain ⟨rfl, dl0⟩ := hl0
  subst hl1
  unfold fJ7_copyOf_59c91
  exact (pt_ck (pt_kc hq (pt_rf dl0)) fun hc6 => (pt_ite (pt_e2 (fun (a b : Int32) => a = b) rfl (pt_len hq (pt_rf dl0))) (fun _ => (pt_cl hq (pt_rf dl0) hc6 fun a20 m21 n22 d_a20 b_a20 hn25 hc23 hq24 => (pt_retR (pt_rf d_a20) b_a20 hq24))) (fun _ => (pt_ck (pt_lenc rfl) fun _ => (pt_al hq rfl rfl fun a7 m8 n9 d_a7 b_a7 hn12 hc10 hq11 => (pt_ck (pt_kc hq11 (pt_rf dl0)) fun hc13 => (pt_ck (pt_cpo hq11 (pt_rf dl0) (pt_rf d_a7) rfl rfl (pt_e2 (fun (a b : Int32) => if b < a then b else a) (pt_len hq11 (pt_rf dl0)) rfl)) fun ho14 => (pt_letk rfl (Nat.le_refl _) (pt_cp hq11 (pt_rf dl0) (pt_rf d_a7) rfl rfl (pt_e2 (fun (a b : Int32) => if b < a then b else a) (pt_len hq11 (pt_rf dl0)) rfl) ho14.1.1) fun m15 n16 em17 hn19 hq18 => (pt_retR (pt_rf d_a7) (Nat.le_trans b_a7 hn19) hq18)))))))))
theorem zJ7_fill_031fb_5 {p : Nat → Nat} {v0 r0 : ml_M} : ∀ (fu : Nat) (l0 l0' : Nat) (hl0 : pt_r p l0 l0') (l1 l1' : Int32) (hl1 : l1 = l1') (l2 l2' : Int32) (hl2 : l2 = l2') (l3 l3' : Int32) (hl3 : l3 = l3') (m n : ml_M) (hq : pt_Q p v0 r0 m n) (bl0 : l0 ≤ ml_n m), pt_T (pt_WM p v0 r0) (fJ7_fill_031fb_5 fu l0 l1 l2 l3 m) (fJ7_fill_031fb_5 fu l0' l1' l2' l3' n) := by
  intro fu
  induction fu with
  | zero => intro l0 l0' hl0 l1 l1' hl1 l2 l2' hl2 l3 l3' hl3 m n hq bl0; exact pt_none
  | succ fu ih =>
  intro l0 l0' hl0 l1 l1' hl1 l2 l2' hl2 l3 l3' hl3 m n hq bl0
  obtain ⟨rfl, dl0⟩ := hl0
  subst hl1
  subst hl2
  subst hl3
  have hk5 := ih
  unfold fJ7_fill_031fb_5
  exact (pt_ite rfl (fun _ => (pt_retM hq)) (fun _ => (pt_ck (pt_in hq (pt_rf dl0) rfl) fun hi26 => (pt_letk rfl (Nat.le_refl _) (pt_sIa hq (pt_rf dl0) rfl rfl) fun m27 n28 em29 hn31 hq30 => (hk5 _ _ (pt_rf dl0) _ _ rfl _ _ rfl _ _ rfl _ _ hq30 (Nat.le_trans bl0 hn31))))))
theorem zJ7_fill_031fb {p : Nat → Nat} {v0 r0 : ml_M} : ∀ (l0 l0' : Nat) (hl0 : pt_r p l0 l0') (l1 l1' : Int32) (hl1 : l1 = l1') (m n : ml_M) (hq : pt_Q p v0 r0 m n) (bl0 : l0 ≤ ml_n m), pt_T (pt_WM p v0 r0) (fJ7_fill_031fb l0 l1 m) (fJ7_fill_031fb l0' l1' n) := by
  intro l0 l0' hl0 l1 l1' hl1 m n hq bl0
  obtain ⟨rfl, dl0⟩ := hl0
  subst hl1
  unfold fJ7_fill_031fb
  exact (pt_ck (pt_kc hq (pt_rf dl0)) fun hc32 => (pt_leti (pt_len hq (pt_rf dl0)) fun x33 => (zJ7_fill_031fb_5  ml_fu _ _ (pt_rf dl0) _ _ rfl _ _ rfl _ _ rfl _ _ hq bl0)))
theorem zJ7_fill_53178_5 {p : Nat → Nat} {v0 r0 : ml_M} : ∀ (fu : Nat) (l0 l0' : Nat) (hl0 : pt_r p l0 l0') (l1 l1' : Int32) (hl1 : l1 = l1') (l2 l2' : Int32) (hl2 : l2 = l2') (l3 l3' : Int32) (hl3 : l3 = l3') (m n : ml_M) (hq : pt_Q p v0 r0 m n) (bl0 : l0 ≤ ml_n m), pt_T (pt_WM p v0 r0) (fJ7_fill_53178_5 fu l0 l1 l2 l3 m) (fJ7_fill_53178_5 fu l0' l1' l2' l3' n) := by
  intro fu
  induction fu with
  | zero => intro l0 l0' hl0 l1 l1' hl1 l2 l2' hl2 l3 l3' hl3 m n hq bl0; exact pt_none
  | succ fu ih =>
  intro l0 l0' hl0 l1 l1' hl1 l2 l2' hl2 l3 l3' hl3 m n hq bl0
  obtain ⟨rfl, dl0⟩ := hl0
  subst hl1
  subst hl2
  subst hl3
  have hk5 := ih
  unfold fJ7_fill_53178_5
  exact (pt_ite rfl (fun _ => (pt_retM hq)) (fun _ => (pt_ck (pt_in hq (pt_rf dl0) rfl) fun hi34 => (pt_letk rfl (Nat.le_refl _) (pt_sIa hq (pt_rf dl0) rfl rfl) fun m35 n36 em37 hn39 hq38 => (hk5 _ _ (pt_rf dl0) _ _ rfl _ _ rfl _ _ rfl _ _ hq38 (Nat.le_trans bl0 hn39))))))
theorem zJ7_fill_53178 {p : Nat → Nat} {v0 r0 : ml_M} : ∀ (l0 l0' : Nat) (hl0 : pt_r p l0 l0') (l1 l1' : Int32) (hl1 : l1 = l1') (m n : ml_M) (hq : pt_Q p v0 r0 m n) (bl0 : l0 ≤ ml_n m), pt_T (pt_WM p v0 r0) (fJ7_fill_53178 l0 l1 m) (fJ7_fill_53178 l0' l1' n) := by
  intro l0 l0' hl0 l1 l1' hl1 m n hq bl0
  obtain ⟨rfl, dl0⟩ := hl0
  subst hl1
  unfold fJ7_fill_53178
  exact (pt_ck (pt_kc hq (pt_rf dl0)) fun hc40 => (pt_leti (pt_len hq (pt_rf dl0)) fun x41 => (zJ7_fill_53178_5  ml_fu _ _ (pt_rf dl0) _ _ rfl _ _ rfl _ _ rfl _ _ hq bl0)))
theorem zX10_within {p : Nat → Nat} {v0 r0 : ml_M} : ∀ (l0 l0' : Int32) (hl0 : l0 = l0') (l1 l1' : Int32) (hl1 : l1 = l1') (l2 l2' : Int32) (hl2 : l2 = l2') (m n : ml_M) (hq : pt_Q p v0 r0 m n), pt_T pt_Wv (fX10_within l0 l1 l2 m) (fX10_within l0' l1' l2' n) := by
  intro l0 l0' hl0 l1 l1' hl1 l2 l2' hl2 m n hq
  subst hl0
  subst hl1
  subst hl2
  unfold fX10_within
  exact (pt_ite rfl (fun _ => (pt_rtv rfl)) (fun _ => (pt_ite rfl (fun _ => (pt_rtv rfl)) (fun _ => (pt_rtv rfl)))))
theorem zX10_isText {p : Nat → Nat} {v0 r0 : ml_M} : ∀ (l0 l0' : Int32) (hl0 : l0 = l0') (m n : ml_M) (hq : pt_Q p v0 r0 m n), pt_T pt_Wv (fX10_isText l0 m) (fX10_isText l0' n) := by
  intro l0 l0' hl0 m n hq
  subst hl0
  unfold fX10_isText
  exact (pt_b1 (zX10_within _ _ rfl _ _ rfl _ _ rfl _ _ hq) fun r42 => (pt_ck (pt_z01 rfl) fun _ => (pt_rtv rfl)))
theorem zX10_found {p : Nat → Nat} {v0 r0 : ml_M} : ∀ (l0 l0' : Nat) (hl0 : pt_r p l0 l0') (l1 l1' : Int32) (hl1 : l1 = l1') (m n : ml_M) (hq : pt_Q p v0 r0 m n) (bl0 : l0 ≤ ml_n m), pt_T (pt_WV p v0 r0) (fX10_found l0 l1 m) (fX10_found l0' l1' n) := by
  intro l0 l0' hl0 l1 l1' hl1 m n hq bl0
  obtain ⟨rfl, dl0⟩ := hl0
  subst hl1
  unfold fX10_found
  exact (pt_ck (pt_kc hq (pt_rf dl0)) fun hc43 => (pt_letk rfl (Nat.le_refl _) (pt_sI hq (pt_rf dl0) rfl) fun m44 n45 em46 hn48 hq47 => (pt_letr (pt_R hq47 (pt_rf dl0) (ml_kk em46 hc43)) (pt_Rb hq47 (pt_rf dl0) (ml_kk em46 hc43)) fun a49 d_a49 b_a49 => (pt_ck (pt_in hq47 (pt_rf d_a49) rfl) fun hi50 => (pt_ck (pt_in hq47 (pt_rf d_a49) rfl) fun hi51 => (pt_letk rfl (Nat.le_refl _) (pt_sIa hq47 (pt_rf d_a49) rfl (pt_e2 (fun (a b : Int32) => a + b) (pt_Ia hq47 (pt_rf d_a49) hi50.1 rfl) rfl)) fun m52 n53 em54 hn56 hq55 => (pt_retV rfl hq55)))))))
theorem zX10_text {p : Nat → Nat} {v0 r0 : ml_M} : ∀ (l0 l0' : Nat) (hl0 : pt_r p l0 l0') (l1 l1' : Int32) (hl1 : l1 = l1') (l2 l2' : Int32) (hl2 : l2 = l2') (m n : ml_M) (hq : pt_Q p v0 r0 m n) (bl0 : l0 ≤ ml_n m), pt_T (pt_WV p v0 r0) (fX10_text l0 l1 l2 m) (fX10_text l0' l1' l2' n) := by
  intro l0 l0' hl0 l1 l1' hl1 l2 l2' hl2 m n hq bl0
  obtain ⟨rfl, dl0⟩ := hl0
  subst hl1
  subst hl2
  unfold fX10_text
  exact (pt_b1 (zX10_isText _ _ rfl _ _ hq) fun r57 => (pt_ite rfl (fun _ => (pt_retV rfl hq)) (fun _ => (pt_ite rfl (fun _ => (pt_ite rfl (fun _ => (pt_ck (pt_lenc rfl) fun _ => (pt_al hq rfl rfl fun a58 m59 n60 d_a58 b_a58 hn63 hc61 hq62 => (pt_b1m hq62 (zJ7_fill_031fb _ _ (pt_rf d_a58) _ _ rfl _ _ (pt_ref hq62) b_a58) fun m64 n65 hn67 hq66 => (pt_ck (pt_kc hq66 (pt_rf dl0)) fun hc68 => (pt_letr (pt_R hq66 (pt_rf dl0) hc68) (pt_Rb hq66 (pt_rf dl0) hc68) fun a69 d_a69 b_a69 => (pt_ck (pt_kc hq66 (pt_rf d_a58)) fun hc71 => (pt_ck (pt_in hq66 (pt_rf d_a69) rfl) fun hi70 => (pt_letk rfl (Nat.le_refl _) (pt_sRa hq66 (pt_rf d_a69) rfl (pt_rf d_a58) (Nat.le_trans b_a58 hn67)) fun m72 n73 em74 hn76 hq75 => (pt_retV rfl hq75)))))))))) (fun _ => (pt_ck (pt_kc hq (pt_rf dl0)) fun hc77 => (pt_b2 hq (zX10_found _ _ (pt_rf dl0) _ _ rfl _ _ (pt_ref hq) bl0) fun r78 m79 n80 hn82 hq81 => (pt_retV rfl hq81)))))) (fun _ => (pt_retV rfl hq))))))
theorem zX10_put_39 {p : Nat → Nat} {v0 r0 : ml_M} : ∀ (l0 l0' : Nat) (hl0 : pt_r p l0 l0') (m n : ml_M) (hq : pt_Q p v0 r0 m n) (bl0 : l0 ≤ ml_n m), pt_T (pt_WV p v0 r0) (fX10_put_39 l0 m) (fX10_put_39 l0' n) := by
  intro l0 l0' hl0 m n hq bl0
  obtain ⟨rfl, dl0⟩ := hl0
  unfold fX10_put_39
  exact (pt_ck (pt_kc hq (pt_rf dl0)) fun hc83 => (pt_b2 hq (zX10_found _ _ (pt_rf dl0) _ _ rfl _ _ (pt_ref hq) bl0) fun r84 m85 n86 hn88 hq87 => (pt_retV rfl hq87)))
theorem zX10_put {p : Nat → Nat} {v0 r0 : ml_M} : ∀ (l0 l0' : Nat) (hl0 : pt_r p l0 l0') (l1 l1' : Int32) (hl1 : l1 = l1') (l2 l2' : Int32) (hl2 : l2 = l2') (l3 l3' : Int32) (hl3 : l3 = l3') (m n : ml_M) (hq : pt_Q p v0 r0 m n) (bl0 : l0 ≤ ml_n m), pt_T (pt_WV p v0 r0) (fX10_put l0 l1 l2 l3 m) (fX10_put l0' l1' l2' l3' n) := by
  intro l0 l0' hl0 l1 l1' hl1 l2 l2' hl2 l3 l3' hl3 m n hq bl0
  obtain ⟨rfl, dl0⟩ := hl0
  subst hl1
  subst hl2
  subst hl3
  unfold fX10_put
  exact (pt_b1 (zX10_isText _ _ rfl _ _ hq) fun r89 => (pt_ite rfl (fun _ => (pt_retV rfl hq)) (fun _ => (pt_ck (pt_kc hq (pt_rf dl0)) fun hc90 => (pt_letr (pt_R hq (pt_rf dl0) hc90) (pt_Rb hq (pt_rf dl0) hc90) fun a91 d_a91 b_a91 => (pt_ck (pt_in hq (pt_rf d_a91) rfl) fun hi92 => pt_letr (pt_Ra hq (pt_rf d_a91) hi92.1 rfl) (pt_Rb hq (pt_rf d_a91) hi92.1) fun a93 d_a93 b_a93 => (pt_ite (pt_nul hq.1 (pt_rf d_a93)) (fun _ => (pt_b2 hq (zX10_found _ _ (pt_rf dl0) _ _ rfl _ _ (pt_ref hq) bl0) fun r103 m104 n105 hn107 hq106 => (pt_retV rfl hq106))) (fun _ => (pt_ite rfl (fun _ => (zX10_put_39   _ _ (pt_rf dl0) _ _ hq bl0)) (fun _ => (pt_ck (pt_kc hq (pt_rf d_a93)) fun hc94 => (pt_ite (pt_e2 (fun (a b : Int32) => a < b) rfl (pt_len hq (pt_rf d_a93))) (fun _ => (pt_ck (pt_in hq (pt_rf d_a93) rfl) fun hi95 => (pt_leti (pt_Ia hq (pt_rf d_a93) hi95.1 rfl) fun x96 => (pt_ck (pt_in hq (pt_rf d_a93) rfl) fun hi97 => (pt_letk rfl (Nat.le_refl _) (pt_sIa hq (pt_rf d_a93) rfl rfl) fun m98 n99 em100 hn102 hq101 => (pt_retV rfl hq101)))))) (fun _ => (zX10_put_39   _ _ (pt_rf dl0) _ _ hq bl0))))))))))))))
theorem zX1_init {p : Nat → Nat} {v0 r0 : ml_M} : ∀ (l0 l0' : Nat) (hl0 : pt_r p l0 l0') (l1 l1' : Nat) (hl1 : pt_r p l1 l1') (m n : ml_M) (hq : pt_Q p v0 r0 m n) (bl0 : l0 ≤ ml_n m) (bl1 : l1 ≤ ml_n m), pt_T (pt_WM p v0 r0) (fX1_init l0 l1 m) (fX1_init l0' l1' n) := by
  intro l0 l0' hl0 l1 l1' hl1 m n hq bl0 bl1
  obtain ⟨rfl, dl0⟩ := hl0
  obtain ⟨rfl, dl1⟩ := hl1
  unfold fX1_init
  exact (pt_ck (pt_nzr (pt_rf dl0)) fun _ => (pt_al hq rfl rfl fun a108 m109 n110 d_a108 b_a108 hn113 hc111 hq112 => (pt_ck (pt_kc hq112 (pt_rf dl0)) fun hc114 => (pt_letk rfl (Nat.le_refl _) (pt_sR hq112 (pt_rf dl0) (pt_rf d_a108) b_a108) fun m115 n116 em117 hn119 hq118 => (pt_al hq118 rfl rfl fun a120 m121 n122 d_a120 b_a120 hn125 hc123 hq124 => (pt_ck (pt_kc hq124 (pt_rf dl0)) fun hc126 => (pt_letk rfl (Nat.le_refl _) (pt_sR hq124 (pt_rf dl0) (pt_rf d_a120) b_a120) fun m127 n128 em129 hn131 hq130 => (pt_letk rfl (Nat.le_refl _) (pt_sI hq130 (pt_rf dl0) rfl) fun m132 n133 em134 hn136 hq135 => (pt_letk rfl (Nat.le_refl _) (pt_sR hq135 (pt_rf dl0) (pt_rf dl1) (Nat.le_trans (Nat.le_trans (Nat.le_trans (Nat.le_trans (Nat.le_trans bl1 hn113) hn119) hn125) hn131) hn136)) fun m137 n138 em139 hn141 hq140 => (pt_retM hq140))))))))))
theorem zX1_readFigure_43 {p : Nat → Nat} {v0 r0 : ml_M} : ∀ (l0 l0' : Nat) (hl0 : pt_r p l0 l0') (m n : ml_M) (hq : pt_Q p v0 r0 m n) (bl0 : l0 ≤ ml_n m), pt_T (pt_WV p v0 r0) (fX1_readFigure_43 l0 m) (fX1_readFigure_43 l0' n) := by
  intro l0 l0' hl0 m n hq bl0
  obtain ⟨rfl, dl0⟩ := hl0
  unfold fX1_readFigure_43
  exact (pt_ck (pt_kc hq (pt_rf dl0)) fun hc142 => (pt_letk rfl (Nat.le_refl _) (pt_sI hq (pt_rf dl0) (pt_I hq (pt_rf dl0) hc142)) fun m143 n144 em145 hn147 hq146 => (pt_retV rfl hq146)))
theorem zX1_readFigure {p : Nat → Nat} {v0 r0 : ml_M} : ∀ (l0 l0' : Nat) (hl0 : pt_r p l0 l0') (l1 l1' : Int32) (hl1 : l1 = l1') (l2 l2' : Int32) (hl2 : l2 = l2') (m n : ml_M) (hq : pt_Q p v0 r0 m n) (bl0 : l0 ≤ ml_n m), pt_T (pt_WV p v0 r0) (fX1_readFigure l0 l1 l2 m) (fX1_readFigure l0' l1' l2' n) := by
  intro l0 l0' hl0 l1 l1' hl1 l2 l2' hl2 m n hq bl0
  obtain ⟨rfl, dl0⟩ := hl0
  subst hl1
  subst hl2
  unfold fX1_readFigure
  exact (pt_ck (pt_kc hq (pt_rf dl0)) fun hc148 => (pt_ite (pt_e2 (fun (a b : Int32) => a = b) (pt_I hq (pt_rf dl0) hc148) rfl) (fun _ => (pt_letr (pt_R hq (pt_rf dl0) hc148) (pt_Rb hq (pt_rf dl0) hc148) fun a149 d_a149 b_a149 => (pt_ck (pt_kc hq (pt_rf d_a149)) fun hc150 => (pt_ite (pt_e2 (fun (a b : Int32) => b ≤ a) (pt_I hq (pt_rf dl0) hc148) (pt_len hq (pt_rf d_a149))) (fun _ => (zX1_readFigure_43   _ _ (pt_rf dl0) _ _ hq bl0)) (fun _ => (pt_letr (pt_R hq (pt_rf dl0) hc148) (pt_Rb hq (pt_rf dl0) hc148) fun a151 d_a151 b_a151 => (pt_ck (pt_in hq (pt_rf d_a151) (pt_I hq (pt_rf dl0) hc148)) fun hi152 => (pt_b1 (zX10_within _ _ (pt_e2 (fun (a b : Int32) => a - b) (pt_Ia hq (pt_rf d_a151) hi152.1 (pt_I hq (pt_rf dl0) hc148)) rfl) _ _ rfl _ _ rfl _ _ hq) fun r153 => (pt_ite rfl (fun _ => (zX1_readFigure_43   _ _ (pt_rf dl0) _ _ hq bl0)) (fun _ => (pt_letr (pt_R hq (pt_rf dl0) hc148) (pt_Rb hq (pt_rf dl0) hc148) fun a154 d_a154 b_a154 => (pt_ck (pt_in hq (pt_rf d_a154) (pt_I hq (pt_rf dl0) hc148)) fun hi155 => (pt_leti (pt_e2 (fun (a b : Int32) => a - b) (pt_Ia hq (pt_rf d_a154) hi155.1 (pt_I hq (pt_rf dl0) hc148)) rfl) fun x156 => (pt_letk rfl (Nat.le_refl _) (pt_sI hq (pt_rf dl0) (pt_e2 (fun (a b : Int32) => a + b) (pt_I hq (pt_rf dl0) hc148) rfl)) fun m157 n158 em159 hn161 hq160 => (pt_retV rfl hq160))))))))))))))) (fun _ => (pt_retV rfl hq))))
theorem zX1_readYear_53 {p : Nat → Nat} {v0 r0 : ml_M} : ∀ (l0 l0' : Nat) (hl0 : pt_r p l0 l0') (l1 l1' : Int32) (hl1 : l1 = l1') (t0 t0' : Int32) (ht0 : t0 = t0') (m n : ml_M) (hq : pt_Q p v0 r0 m n) (bl0 : l0 ≤ ml_n m), pt_T (pt_WV p v0 r0) (fX1_readYear_53 l0 l1 t0 m) (fX1_readYear_53 l0' l1' t0' n) := by
  intro l0 l0' hl0 l1 l1' hl1 t0 t0' ht0 m n hq bl0
  obtain ⟨rfl, dl0⟩ := hl0
  subst hl1
  subst ht0
  unfold fX1_readYear_53
  exact (pt_ite rfl (fun _ => (pt_retV rfl hq)) (fun _ => (pt_ck (pt_kc hq (pt_rf dl0)) fun hc162 => (pt_b2 hq (zX1_readFigure _ _ (pt_rf dl0) _ _ rfl _ _ rfl _ _ (pt_ref hq) bl0) fun r163 m164 n165 hn167 hq166 => (pt_retV rfl hq166)))))
theorem zX1_readYear_52 {p : Nat → Nat} {v0 r0 : ml_M} : ∀ (l0 l0' : Nat) (hl0 : pt_r p l0 l0') (l1 l1' : Int32) (hl1 : l1 = l1') (m n : ml_M) (hq : pt_Q p v0 r0 m n) (bl0 : l0 ≤ ml_n m), pt_T (pt_WV p v0 r0) (fX1_readYear_52 l0 l1 m) (fX1_readYear_52 l0' l1' n) := by
  intro l0 l0' hl0 l1 l1' hl1 m n hq bl0
  obtain ⟨rfl, dl0⟩ := hl0
  subst hl1
  unfold fX1_readYear_52
  exact (zX1_readYear_53   _ _ (pt_rf dl0) _ _ rfl _ _ rfl _ _ hq bl0)
theorem zX1_readYear {p : Nat → Nat} {v0 r0 : ml_M} : ∀ (l0 l0' : Nat) (hl0 : pt_r p l0 l0') (m n : ml_M) (hq : pt_Q p v0 r0 m n) (bl0 : l0 ≤ ml_n m), pt_T (pt_WV p v0 r0) (fX1_readYear l0 m) (fX1_readYear l0' n) := by
  intro l0 l0' hl0 m n hq bl0
  obtain ⟨rfl, dl0⟩ := hl0
  unfold fX1_readYear
  exact (pt_ck (pt_kc hq (pt_rf dl0)) fun hc168 => (pt_b2 hq (zX1_readFigure _ _ (pt_rf dl0) _ _ rfl _ _ rfl _ _ (pt_ref hq) bl0) fun r169 m170 n171 hn173 hq172 => (pt_ck (pt_kc hq172 (pt_rf dl0)) fun hc174 => (pt_ite (pt_e2 (fun (a b : Int32) => a = b) (pt_I hq172 (pt_rf dl0) hc174) rfl) (fun _ => (pt_letr (pt_R hq172 (pt_rf dl0) hc174) (pt_Rb hq172 (pt_rf dl0) hc174) fun a175 d_a175 b_a175 => (pt_ck (pt_kc hq172 (pt_rf d_a175)) fun hc176 => (pt_ite (pt_e2 (fun (a b : Int32) => b ≤ a) (pt_I hq172 (pt_rf dl0) hc174) (pt_len hq172 (pt_rf d_a175))) (fun _ => (zX1_readYear_52   _ _ (pt_rf dl0) _ _ rfl _ _ hq172 (Nat.le_trans bl0 hn173))) (fun _ => (pt_letr (pt_R hq172 (pt_rf dl0) hc174) (pt_Rb hq172 (pt_rf dl0) hc174) fun a177 d_a177 b_a177 => (pt_ck (pt_in hq172 (pt_rf d_a177) (pt_I hq172 (pt_rf dl0) hc174)) fun hi178 => (pt_b1 (zX10_within _ _ (pt_Ia hq172 (pt_rf d_a177) hi178.1 (pt_I hq172 (pt_rf dl0) hc174)) _ _ rfl _ _ rfl _ _ hq172) fun r179 => (pt_ite rfl (fun _ => (zX1_readYear_52   _ _ (pt_rf dl0) _ _ rfl _ _ hq172 (Nat.le_trans bl0 hn173))) (fun _ => (zX1_readYear_53   _ _ (pt_rf dl0) _ _ rfl _ _ rfl _ _ hq172 (Nat.le_trans bl0 hn173)))))))))))) (fun _ => (zX1_readYear_52   _ _ (pt_rf dl0) _ _ rfl _ _ hq172 (Nat.le_trans bl0 hn173)))))))
theorem zX1_readSign_48 {p : Nat → Nat} {v0 r0 : ml_M} : ∀ (l0 l0' : Nat) (hl0 : pt_r p l0 l0') (m n : ml_M) (hq : pt_Q p v0 r0 m n) (bl0 : l0 ≤ ml_n m), pt_T (pt_WM p v0 r0) (fX1_readSign_48 l0 m) (fX1_readSign_48 l0' n) := by
  intro l0 l0' hl0 m n hq bl0
  obtain ⟨rfl, dl0⟩ := hl0
  unfold fX1_readSign_48
  exact (pt_ck (pt_kc hq (pt_rf dl0)) fun hc180 => (pt_letk rfl (Nat.le_refl _) (pt_sI hq (pt_rf dl0) (pt_I hq (pt_rf dl0) hc180)) fun m181 n182 em183 hn185 hq184 => (pt_retM hq184)))
theorem zX1_readSign {p : Nat → Nat} {v0 r0 : ml_M} : ∀ (l0 l0' : Nat) (hl0 : pt_r p l0 l0') (l1 l1' : Int32) (hl1 : l1 = l1') (m n : ml_M) (hq : pt_Q p v0 r0 m n) (bl0 : l0 ≤ ml_n m), pt_T (pt_WM p v0 r0) (fX1_readSign l0 l1 m) (fX1_readSign l0' l1' n) := by
  intro l0 l0' hl0 l1 l1' hl1 m n hq bl0
  obtain ⟨rfl, dl0⟩ := hl0
  subst hl1
  unfold fX1_readSign
  exact (pt_ck (pt_kc hq (pt_rf dl0)) fun hc186 => (pt_ite (pt_e2 (fun (a b : Int32) => a = b) (pt_I hq (pt_rf dl0) hc186) rfl) (fun _ => (pt_letr (pt_R hq (pt_rf dl0) hc186) (pt_Rb hq (pt_rf dl0) hc186) fun a187 d_a187 b_a187 => (pt_ck (pt_kc hq (pt_rf d_a187)) fun hc188 => (pt_ite (pt_e2 (fun (a b : Int32) => b ≤ a) (pt_I hq (pt_rf dl0) hc186) (pt_len hq (pt_rf d_a187))) (fun _ => (zX1_readSign_48   _ _ (pt_rf dl0) _ _ hq bl0)) (fun _ => (pt_letr (pt_R hq (pt_rf dl0) hc186) (pt_Rb hq (pt_rf dl0) hc186) fun a189 d_a189 b_a189 => (pt_ck (pt_in hq (pt_rf d_a189) (pt_I hq (pt_rf dl0) hc186)) fun hi190 => (pt_ite (pt_e2 (fun (a b : Int32) => a = b) (pt_Ia hq (pt_rf d_a189) hi190.1 (pt_I hq (pt_rf dl0) hc186)) rfl) (fun _ => (pt_letk rfl (Nat.le_refl _) (pt_sI hq (pt_rf dl0) (pt_e2 (fun (a b : Int32) => a + b) (pt_I hq (pt_rf dl0) hc186) rfl)) fun m191 n192 em193 hn195 hq194 => (pt_retM hq194))) (fun _ => (zX1_readSign_48   _ _ (pt_rf dl0) _ _ hq bl0)))))))))) (fun _ => (pt_retM hq))))
theorem zX6_init {p : Nat → Nat} {v0 r0 : ml_M} : ∀ (l0 l0' : Nat) (hl0 : pt_r p l0 l0') (l1 l1' : Int32) (hl1 : l1 = l1') (l2 l2' : Int32) (hl2 : l2 = l2') (l3 l3' : Int32) (hl3 : l3 = l3') (l4 l4' : Int32) (hl4 : l4 = l4') (l5 l5' : Int32) (hl5 : l5 = l5') (m n : ml_M) (hq : pt_Q p v0 r0 m n) (bl0 : l0 ≤ ml_n m), pt_T (pt_WM p v0 r0) (fX6_init l0 l1 l2 l3 l4 l5 m) (fX6_init l0' l1' l2' l3' l4' l5' n) := by
  intro l0 l0' hl0 l1 l1' hl1 l2 l2' hl2 l3 l3' hl3 l4 l4' hl4 l5 l5' hl5 m n hq bl0
  obtain ⟨rfl, dl0⟩ := hl0
  subst hl1
  subst hl2
  subst hl3
  subst hl4
  subst hl5
  unfold fX6_init
  exact (pt_ck (pt_nzr (pt_rf dl0)) fun _ => (pt_ck (pt_kc hq (pt_rf dl0)) fun hc196 => (pt_letk rfl (Nat.le_refl _) (pt_sI hq (pt_rf dl0) rfl) fun m197 n198 em199 hn201 hq200 => (pt_letk rfl (Nat.le_refl _) (pt_sI hq200 (pt_rf dl0) rfl) fun m202 n203 em204 hn206 hq205 => (pt_letk rfl (Nat.le_refl _) (pt_sI hq205 (pt_rf dl0) rfl) fun m207 n208 em209 hn211 hq210 => (pt_letk rfl (Nat.le_refl _) (pt_sI hq210 (pt_rf dl0) rfl) fun m212 n213 em214 hn216 hq215 => (pt_letk rfl (Nat.le_refl _) (pt_sI hq215 (pt_rf dl0) rfl) fun m217 n218 em219 hn221 hq220 => (pt_retM hq220))))))))
theorem zX1_readLodger_48 {p : Nat → Nat} {v0 r0 : ml_M} : ∀ (l0 l0' : Nat) (hl0 : pt_r p l0 l0') (l1 l1' : Int32) (hl1 : l1 = l1') (l2 l2' : Int32) (hl2 : l2 = l2') (m n : ml_M) (hq : pt_Q p v0 r0 m n) (bl0 : l0 ≤ ml_n m), pt_T (pt_WM p v0 r0) (fX1_readLodger_48 l0 l1 l2 m) (fX1_readLodger_48 l0' l1' l2' n) := by
  intro l0 l0' hl0 l1 l1' hl1 l2 l2' hl2 m n hq bl0
  obtain ⟨rfl, dl0⟩ := hl0
  subst hl1
  subst hl2
  unfold fX1_readLodger_48
  exact (pt_ck (pt_kc hq (pt_rf dl0)) fun hc222 => (pt_b1m hq (zX1_readSign _ _ (pt_rf dl0) _ _ rfl _ _ (pt_ref hq) bl0) fun m223 n224 hn226 hq225 => (pt_ck (pt_kc hq225 (pt_rf dl0)) fun hc227 => (pt_b2 hq225 (zX1_readFigure _ _ (pt_rf dl0) _ _ rfl _ _ rfl _ _ (pt_ref hq225) (Nat.le_trans bl0 hn226)) fun r228 m229 n230 hn232 hq231 => (pt_ck (pt_kc hq231 (pt_rf dl0)) fun hc233 => (pt_b1m hq231 (zX1_readSign _ _ (pt_rf dl0) _ _ rfl _ _ (pt_ref hq231) (Nat.le_trans (Nat.le_trans bl0 hn226) hn232)) fun m234 n235 hn237 hq236 => (pt_ck (pt_kc hq236 (pt_rf dl0)) fun hc238 => (pt_b2 hq236 (zX1_readFigure _ _ (pt_rf dl0) _ _ rfl _ _ rfl _ _ (pt_ref hq236) (Nat.le_trans (Nat.le_trans (Nat.le_trans bl0 hn226) hn232) hn237)) fun r239 m240 n241 hn243 hq242 => (pt_ck (pt_kc hq242 (pt_rf dl0)) fun hc244 => (pt_b1m hq242 (zX1_readSign _ _ (pt_rf dl0) _ _ rfl _ _ (pt_ref hq242) (Nat.le_trans (Nat.le_trans (Nat.le_trans (Nat.le_trans bl0 hn226) hn232) hn237) hn243)) fun m245 n246 hn248 hq247 => (pt_ck (pt_kc hq247 (pt_rf dl0)) fun hc249 => (pt_b2 hq247 (zX1_readFigure _ _ (pt_rf dl0) _ _ rfl _ _ rfl _ _ (pt_ref hq247) (Nat.le_trans (Nat.le_trans (Nat.le_trans (Nat.le_trans (Nat.le_trans bl0 hn226) hn232) hn237) hn243) hn248)) fun r250 m251 n252 hn254 hq253 => (pt_ck (pt_kc hq253 (pt_rf dl0)) fun hc255 => (pt_ite (pt_e2 (fun (a b : Int32) => a = b) (pt_I hq253 (pt_rf dl0) hc255) rfl) (fun _ => (pt_letr (pt_R hq253 (pt_rf dl0) hc255) (pt_Rb hq253 (pt_rf dl0) hc255) fun a256 d_a256 b_a256 => (pt_al hq253 rfl rfl fun a257 m258 n259 d_a257 b_a257 hn262 hc260 hq261 => (pt_b1m hq261 (zX6_init _ _ (pt_rf d_a257) _ _ rfl _ _ rfl _ _ rfl _ _ rfl _ _ rfl _ _ (pt_ref hq261) b_a257) fun m263 n264 hn266 hq265 => (pt_ck (pt_kc hq265 (pt_rf d_a257)) fun hc268 => (pt_ck (pt_in hq265 (pt_rf d_a256) (pt_I hq253 (pt_rf dl0) hc255)) fun hi267 => (pt_letk rfl (Nat.le_refl _) (pt_sRa hq265 (pt_rf d_a256) (pt_I hq253 (pt_rf dl0) hc255) (pt_rf d_a257) (Nat.le_trans b_a257 hn266)) fun m269 n270 em271 hn273 hq272 => (pt_ck (pt_kc hq272 (pt_rf dl0)) fun hc274 => (pt_letk rfl (Nat.le_refl _) (pt_sI hq272 (pt_rf dl0) (pt_e2 (fun (a b : Int32) => a + b) (pt_I hq272 (pt_rf dl0) hc274) rfl)) fun m275 n276 em277 hn279 hq278 => (pt_retM hq278)))))))))) (fun _ => (pt_retM hq253))))))))))))))))
theorem zX1_readLodger {p : Nat → Nat} {v0 r0 : ml_M} : ∀ (l0 l0' : Nat) (hl0 : pt_r p l0 l0') (m n : ml_M) (hq : pt_Q p v0 r0 m n) (bl0 : l0 ≤ ml_n m), pt_T (pt_WM p v0 r0) (fX1_readLodger l0 m) (fX1_readLodger l0' n) := by
  intro l0 l0' hl0 m n hq bl0
  obtain ⟨rfl, dl0⟩ := hl0
  unfold fX1_readLodger
  exact (pt_ck (pt_kc hq (pt_rf dl0)) fun hc280 => (pt_letk rfl (Nat.le_refl _) (pt_sI hq (pt_rf dl0) (pt_e2 (fun (a b : Int32) => a + b) (pt_I hq (pt_rf dl0) hc280) rfl)) fun m281 n282 em283 hn285 hq284 => (pt_b2 hq284 (zX1_readYear _ _ (pt_rf dl0) _ _ (pt_ref hq284) (Nat.le_trans bl0 hn285)) fun r286 m287 n288 hn290 hq289 => (pt_ck (pt_kc hq289 (pt_rf dl0)) fun hc291 => (pt_b1m hq289 (zX1_readSign _ _ (pt_rf dl0) _ _ rfl _ _ (pt_ref hq289) (Nat.le_trans (Nat.le_trans bl0 hn285) hn290)) fun m292 n293 hn295 hq294 => (pt_ck (pt_kc hq294 (pt_rf dl0)) fun hc296 => (pt_b2 hq294 (zX1_readYear _ _ (pt_rf dl0) _ _ (pt_ref hq294) (Nat.le_trans (Nat.le_trans (Nat.le_trans bl0 hn285) hn290) hn295)) fun r297 m298 n299 hn301 hq300 => (pt_ck (pt_kc hq300 (pt_rf dl0)) fun hc302 => (pt_ite (pt_e2 (fun (a b : Int32) => a = b) (pt_I hq300 (pt_rf dl0) hc302) rfl) (fun _ => (pt_ite rfl (fun _ => (zX1_readLodger_48   _ _ (pt_rf dl0) _ _ rfl _ _ rfl _ _ hq300 (Nat.le_trans (Nat.le_trans (Nat.le_trans (Nat.le_trans bl0 hn285) hn290) hn295) hn301))) (fun _ => (pt_letk rfl (Nat.le_refl _) (pt_sI hq300 (pt_rf dl0) (pt_I hq300 (pt_rf dl0) hc302)) fun m303 n304 em305 hn307 hq306 => (zX1_readLodger_48   _ _ (pt_rf dl0) _ _ rfl _ _ rfl _ _ hq306 (Nat.le_trans (Nat.le_trans (Nat.le_trans (Nat.le_trans (Nat.le_trans bl0 hn285) hn290) hn295) hn301) hn307)))))) (fun _ => (zX1_readLodger_48   _ _ (pt_rf dl0) _ _ rfl _ _ rfl _ _ hq300 (Nat.le_trans (Nat.le_trans (Nat.le_trans (Nat.le_trans bl0 hn285) hn290) hn295) hn301))))))))))))
theorem zX9_init {p : Nat → Nat} {v0 r0 : ml_M} : ∀ (l0 l0' : Nat) (hl0 : pt_r p l0 l0') (l1 l1' : Int32) (hl1 : l1 = l1') (l2 l2' : Int32) (hl2 : l2 = l2') (m n : ml_M) (hq : pt_Q p v0 r0 m n) (bl0 : l0 ≤ ml_n m), pt_T (pt_WM p v0 r0) (fX9_init l0 l1 l2 m) (fX9_init l0' l1' l2' n) := by
  intro l0 l0' hl0 l1 l1' hl1 l2 l2' hl2 m n hq bl0
  obtain ⟨rfl, dl0⟩ := hl0
  subst hl1
  subst hl2
  unfold fX9_init
  exact (pt_ck (pt_nzr (pt_rf dl0)) fun _ => (pt_ck (pt_kc hq (pt_rf dl0)) fun hc308 => (pt_letk rfl (Nat.le_refl _) (pt_sI hq (pt_rf dl0) rfl) fun m309 n310 em311 hn313 hq312 => (pt_letk rfl (Nat.le_refl _) (pt_sI hq312 (pt_rf dl0) rfl) fun m314 n315 em316 hn318 hq317 => (pt_retM hq317)))))
theorem zX1_readTrunk_37 {p : Nat → Nat} {v0 r0 : ml_M} : ∀ (l0 l0' : Nat) (hl0 : pt_r p l0 l0') (l1 l1' : Int32) (hl1 : l1 = l1') (m n : ml_M) (hq : pt_Q p v0 r0 m n) (bl0 : l0 ≤ ml_n m), pt_T (pt_WM p v0 r0) (fX1_readTrunk_37 l0 l1 m) (fX1_readTrunk_37 l0' l1' n) := by
  intro l0 l0' hl0 l1 l1' hl1 m n hq bl0
  obtain ⟨rfl, dl0⟩ := hl0
  subst hl1
  unfold fX1_readTrunk_37
  exact (pt_ck (pt_kc hq (pt_rf dl0)) fun hc319 => (pt_b1m hq (zX1_readSign _ _ (pt_rf dl0) _ _ rfl _ _ (pt_ref hq) bl0) fun m320 n321 hn323 hq322 => (pt_ck (pt_kc hq322 (pt_rf dl0)) fun hc324 => (pt_b2 hq322 (zX1_readFigure _ _ (pt_rf dl0) _ _ rfl _ _ rfl _ _ (pt_ref hq322) (Nat.le_trans bl0 hn323)) fun r325 m326 n327 hn329 hq328 => (pt_ck (pt_kc hq328 (pt_rf dl0)) fun hc330 => (pt_ite (pt_e2 (fun (a b : Int32) => a = b) (pt_I hq328 (pt_rf dl0) hc330) rfl) (fun _ => (pt_letr (pt_R hq328 (pt_rf dl0) hc330) (pt_Rb hq328 (pt_rf dl0) hc330) fun a331 d_a331 b_a331 => (pt_al hq328 rfl rfl fun a332 m333 n334 d_a332 b_a332 hn337 hc335 hq336 => (pt_b1m hq336 (zX9_init _ _ (pt_rf d_a332) _ _ rfl _ _ rfl _ _ (pt_ref hq336) b_a332) fun m338 n339 hn341 hq340 => (pt_ck (pt_kc hq340 (pt_rf d_a332)) fun hc343 => (pt_ck (pt_in hq340 (pt_rf d_a331) (pt_I hq328 (pt_rf dl0) hc330)) fun hi342 => (pt_letk rfl (Nat.le_refl _) (pt_sRa hq340 (pt_rf d_a331) (pt_I hq328 (pt_rf dl0) hc330) (pt_rf d_a332) (Nat.le_trans b_a332 hn341)) fun m344 n345 em346 hn348 hq347 => (pt_ck (pt_kc hq347 (pt_rf dl0)) fun hc349 => (pt_letk rfl (Nat.le_refl _) (pt_sI hq347 (pt_rf dl0) (pt_e2 (fun (a b : Int32) => a + b) (pt_I hq347 (pt_rf dl0) hc349) rfl)) fun m350 n351 em352 hn354 hq353 => (pt_retM hq353)))))))))) (fun _ => (pt_retM hq328))))))))
theorem zX1_readTrunk_14 {p : Nat → Nat} {v0 r0 : ml_M} : ∀ (fu : Nat) (l0 l0' : Nat) (hl0 : pt_r p l0 l0') (l1 l1' : Int32) (hl1 : l1 = l1') (l2 l2' : Int32) (hl2 : l2 = l2') (m n : ml_M) (hq : pt_Q p v0 r0 m n) (bl0 : l0 ≤ ml_n m), pt_T (pt_WM p v0 r0) (fX1_readTrunk_14 fu l0 l1 l2 m) (fX1_readTrunk_14 fu l0' l1' l2' n) := by
  intro fu
  induction fu with
  | zero => intro l0 l0' hl0 l1 l1' hl1 l2 l2' hl2 m n hq bl0; exact pt_none
  | succ fu ih =>
  intro l0 l0' hl0 l1 l1' hl1 l2 l2' hl2 m n hq bl0
  obtain ⟨rfl, dl0⟩ := hl0
  subst hl1
  subst hl2
  have hk14 := ih
  unfold fX1_readTrunk_14
  exact (pt_ite rfl (fun _ => (zX1_readTrunk_37   _ _ (pt_rf dl0) _ _ rfl _ _ hq bl0)) (fun _ => (pt_ck (pt_kc hq (pt_rf dl0)) fun hc355 => (pt_b2 hq (zX1_readFigure _ _ (pt_rf dl0) _ _ rfl _ _ rfl _ _ (pt_ref hq) bl0) fun r356 m357 n358 hn360 hq359 => (pt_leti rfl fun x361 => (hk14 _ _ (pt_rf dl0) _ _ rfl _ _ rfl _ _ hq359 (Nat.le_trans bl0 hn360)))))))
theorem zX1_readTrunk {p : Nat → Nat} {v0 r0 : ml_M} : ∀ (l0 l0' : Nat) (hl0 : pt_r p l0 l0') (m n : ml_M) (hq : pt_Q p v0 r0 m n) (bl0 : l0 ≤ ml_n m), pt_T (pt_WM p v0 r0) (fX1_readTrunk l0 m) (fX1_readTrunk l0' n) := by
  intro l0 l0' hl0 m n hq bl0
  obtain ⟨rfl, dl0⟩ := hl0
  unfold fX1_readTrunk
  exact (pt_ck (pt_kc hq (pt_rf dl0)) fun hc362 => (pt_letk rfl (Nat.le_refl _) (pt_sI hq (pt_rf dl0) (pt_e2 (fun (a b : Int32) => a + b) (pt_I hq (pt_rf dl0) hc362) rfl)) fun m363 n364 em365 hn367 hq366 => (zX1_readTrunk_14  ml_fu _ _ (pt_rf dl0) _ _ rfl _ _ rfl _ _ hq366 (Nat.le_trans bl0 hn367))))
theorem zX1_readStanding_64 {p : Nat → Nat} {v0 r0 : ml_M} : ∀ (l0 l0' : Nat) (hl0 : pt_r p l0 l0') (l1 l1' : Int32) (hl1 : l1 = l1') (l3 l3' : Int32) (hl3 : l3 = l3') (m n : ml_M) (hq : pt_Q p v0 r0 m n) (bl0 : l0 ≤ ml_n m), pt_T (pt_WM p v0 r0) (fX1_readStanding_64 l0 l1 l3 m) (fX1_readStanding_64 l0' l1' l3' n) := by
  intro l0 l0' hl0 l1 l1' hl1 l3 l3' hl3 m n hq bl0
  obtain ⟨rfl, dl0⟩ := hl0
  subst hl1
  subst hl3
  unfold fX1_readStanding_64
  exact (pt_ck (pt_kc hq (pt_rf dl0)) fun hc368 => (pt_ite (pt_e2 (fun (a b : Int32) => a = b) (pt_I hq (pt_rf dl0) hc368) rfl) (fun _ => (pt_letk rfl (Nat.le_refl _) (pt_sI hq (pt_rf dl0) (pt_e2 (fun (a b : Int32) => a + b) (pt_I hq (pt_rf dl0) hc368) rfl)) fun m369 n370 em371 hn373 hq372 => (pt_letr (pt_R hq372 (pt_rf dl0) (ml_kk em371 hc368)) (pt_Rb hq372 (pt_rf dl0) (ml_kk em371 hc368)) fun a374 d_a374 b_a374 => (pt_ck (pt_in hq372 (pt_rf d_a374) rfl) fun hi375 => pt_letr (pt_Ra hq372 (pt_rf d_a374) hi375.1 rfl) (pt_Rb hq372 (pt_rf d_a374) hi375.1) fun a376 d_a376 b_a376 => (pt_ck (pt_kc hq372 (pt_rf d_a376)) fun hc377 => (pt_letk rfl (Nat.le_refl _) (pt_sI hq372 (pt_rf d_a376) (pt_e2 (fun (a b : Int32) => a ||| b) (pt_I hq372 (pt_rf d_a376) hc377) rfl)) fun m378 n379 em380 hn382 hq381 => (pt_letr (pt_R hq381 (pt_rf dl0) (ml_kk em380 (ml_kk em371 hc368))) (pt_Rb hq381 (pt_rf dl0) (ml_kk em380 (ml_kk em371 hc368))) fun a383 d_a383 b_a383 => (pt_ck (pt_in hq381 (pt_rf d_a383) rfl) fun hi384 => pt_letr (pt_Ra hq381 (pt_rf d_a383) hi384.1 rfl) (pt_Rb hq381 (pt_rf d_a383) hi384.1) fun a385 d_a385 b_a385 => (pt_ck (pt_kc hq381 (pt_rf d_a385)) fun hc386 => (pt_letk rfl (Nat.le_refl _) (pt_sI hq381 (pt_rf d_a385) (pt_e2 (fun (a b : Int32) => a ||| b) (pt_I hq381 (pt_rf d_a385) hc386) rfl)) fun m387 n388 em389 hn391 hq390 => (pt_retM hq390))))))))))) (fun _ => (pt_retM hq))))
theorem zX1_readStanding {p : Nat → Nat} {v0 r0 : ml_M} : ∀ (l0 l0' : Nat) (hl0 : pt_r p l0 l0') (m n : ml_M) (hq : pt_Q p v0 r0 m n) (bl0 : l0 ≤ ml_n m), pt_T (pt_WM p v0 r0) (fX1_readStanding l0 m) (fX1_readStanding l0' n) := by
  intro l0 l0' hl0 m n hq bl0
  obtain ⟨rfl, dl0⟩ := hl0
  unfold fX1_readStanding
  exact (pt_ck (pt_kc hq (pt_rf dl0)) fun hc392 => (pt_letk rfl (Nat.le_refl _) (pt_sI hq (pt_rf dl0) (pt_e2 (fun (a b : Int32) => a + b) (pt_I hq (pt_rf dl0) hc392) rfl)) fun m393 n394 em395 hn397 hq396 => (pt_b2 hq396 (zX1_readFigure _ _ (pt_rf dl0) _ _ rfl _ _ (pt_e2 (fun (a b : Int32) => a - b) (pt_I hq396 (pt_rf dl0) (ml_kk em395 hc392)) rfl) _ _ (pt_ref hq396) (Nat.le_trans bl0 hn397)) fun r398 m399 n400 hn402 hq401 => (pt_ck (pt_kc hq401 (pt_rf dl0)) fun hc403 => (pt_b1m hq401 (zX1_readSign _ _ (pt_rf dl0) _ _ rfl _ _ (pt_ref hq401) (Nat.le_trans (Nat.le_trans bl0 hn397) hn402)) fun m404 n405 hn407 hq406 => (pt_ck (pt_kc hq406 (pt_rf dl0)) fun hc408 => (pt_leti (pt_I hq406 (pt_rf dl0) hc408) fun x409 => (pt_b2 hq406 (zX1_readFigure _ _ (pt_rf dl0) _ _ rfl _ _ (pt_e2 (fun (a b : Int32) => a - b) (pt_I hq406 (pt_rf dl0) hc408) rfl) _ _ (pt_ref hq406) (Nat.le_trans (Nat.le_trans (Nat.le_trans bl0 hn397) hn402) hn407)) fun r410 m411 n412 hn414 hq413 => (pt_ck (pt_kc hq413 (pt_rf dl0)) fun hc415 => (pt_ite (pt_e2 (fun (a b : Int32) => a = b) (pt_I hq413 (pt_rf dl0) hc415) rfl) (fun _ => (pt_ite rfl (fun _ => (pt_letk rfl (Nat.le_refl _) (pt_sI hq413 (pt_rf dl0) rfl) fun m416 n417 em418 hn420 hq419 => (zX1_readStanding_64   _ _ (pt_rf dl0) _ _ rfl _ _ rfl _ _ hq419 (Nat.le_trans (Nat.le_trans (Nat.le_trans (Nat.le_trans (Nat.le_trans bl0 hn397) hn402) hn407) hn414) hn420)))) (fun _ => (zX1_readStanding_64   _ _ (pt_rf dl0) _ _ rfl _ _ rfl _ _ hq413 (Nat.le_trans (Nat.le_trans (Nat.le_trans (Nat.le_trans bl0 hn397) hn402) hn407) hn414))))) (fun _ => (zX1_readStanding_64   _ _ (pt_rf dl0) _ _ rfl _ _ rfl _ _ hq413 (Nat.le_trans (Nat.le_trans (Nat.le_trans (Nat.le_trans bl0 hn397) hn402) hn407) hn414)))))))))))))
theorem zX1_readItem_85 {p : Nat → Nat} {v0 r0 : ml_M} : ∀ (l0 l0' : Nat) (hl0 : pt_r p l0 l0') (m n : ml_M) (hq : pt_Q p v0 r0 m n) (bl0 : l0 ≤ ml_n m), pt_T (pt_WM p v0 r0) (fX1_readItem_85 l0 m) (fX1_readItem_85 l0' n) := by
  intro l0 l0' hl0 m n hq bl0
  obtain ⟨rfl, dl0⟩ := hl0
  unfold fX1_readItem_85
  exact (pt_ck (pt_kc hq (pt_rf dl0)) fun hc421 => (pt_letk rfl (Nat.le_refl _) (pt_sI hq (pt_rf dl0) (pt_I hq (pt_rf dl0) hc421)) fun m422 n423 em424 hn426 hq425 => (pt_retM hq425)))
theorem zX1_readItem_63 {p : Nat → Nat} {v0 r0 : ml_M} : ∀ (l0 l0' : Nat) (hl0 : pt_r p l0 l0') (l1 l1' : Int32) (hl1 : l1 = l1') (m n : ml_M) (hq : pt_Q p v0 r0 m n) (bl0 : l0 ≤ ml_n m), pt_T (pt_WM p v0 r0) (fX1_readItem_63 l0 l1 m) (fX1_readItem_63 l0' l1' n) := by
  intro l0 l0' hl0 l1 l1' hl1 m n hq bl0
  obtain ⟨rfl, dl0⟩ := hl0
  subst hl1
  unfold fX1_readItem_63
  exact (pt_ite rfl (fun _ => (pt_ck (pt_kc hq (pt_rf dl0)) fun hc427 => (pt_ite (pt_e2 (fun (a b : Int32) => b ≤ a) (pt_I hq (pt_rf dl0) hc427) rfl) (fun _ => (zX1_readItem_85   _ _ (pt_rf dl0) _ _ hq bl0)) (fun _ => (pt_b1m hq (zX1_readStanding _ _ (pt_rf dl0) _ _ (pt_ref hq) bl0) fun m428 n429 hn431 hq430 => (pt_retM hq430)))))) (fun _ => (zX1_readItem_85   _ _ (pt_rf dl0) _ _ hq bl0)))
theorem zX1_readItem_41 {p : Nat → Nat} {v0 r0 : ml_M} : ∀ (l0 l0' : Nat) (hl0 : pt_r p l0 l0') (l1 l1' : Int32) (hl1 : l1 = l1') (m n : ml_M) (hq : pt_Q p v0 r0 m n) (bl0 : l0 ≤ ml_n m), pt_T (pt_WM p v0 r0) (fX1_readItem_41 l0 l1 m) (fX1_readItem_41 l0' l1' n) := by
  intro l0 l0' hl0 l1 l1' hl1 m n hq bl0
  obtain ⟨rfl, dl0⟩ := hl0
  subst hl1
  unfold fX1_readItem_41
  exact (pt_ite rfl (fun _ => (pt_ck (pt_kc hq (pt_rf dl0)) fun hc432 => (pt_ite (pt_e2 (fun (a b : Int32) => b ≤ a) (pt_I hq (pt_rf dl0) hc432) rfl) (fun _ => (zX1_readItem_63   _ _ (pt_rf dl0) _ _ rfl _ _ hq bl0)) (fun _ => (pt_b1m hq (zX1_readTrunk _ _ (pt_rf dl0) _ _ (pt_ref hq) bl0) fun m433 n434 hn436 hq435 => (pt_retM hq435)))))) (fun _ => (zX1_readItem_63   _ _ (pt_rf dl0) _ _ rfl _ _ hq bl0)))
theorem zX1_readItem {p : Nat → Nat} {v0 r0 : ml_M} : ∀ (l0 l0' : Nat) (hl0 : pt_r p l0 l0') (l1 l1' : Int32) (hl1 : l1 = l1') (m n : ml_M) (hq : pt_Q p v0 r0 m n) (bl0 : l0 ≤ ml_n m), pt_T (pt_WM p v0 r0) (fX1_readItem l0 l1 m) (fX1_readItem l0' l1' n) := by
  intro l0 l0' hl0 l1 l1' hl1 m n hq bl0
  obtain ⟨rfl, dl0⟩ := hl0
  subst hl1
  unfold fX1_readItem
  exact (pt_ite rfl (fun _ => (pt_ck (pt_kc hq (pt_rf dl0)) fun hc442 => (pt_letk rfl (Nat.le_refl _) (pt_sI hq (pt_rf dl0) (pt_e2 (fun (a b : Int32) => a + b) (pt_I hq (pt_rf dl0) hc442) rfl)) fun m443 n444 em445 hn447 hq446 => (pt_retM hq446)))) (fun _ => (pt_ite rfl (fun _ => (pt_ck (pt_kc hq (pt_rf dl0)) fun hc437 => (pt_ite (pt_e2 (fun (a b : Int32) => b ≤ a) (pt_I hq (pt_rf dl0) hc437) rfl) (fun _ => (zX1_readItem_41   _ _ (pt_rf dl0) _ _ rfl _ _ hq bl0)) (fun _ => (pt_b1m hq (zX1_readLodger _ _ (pt_rf dl0) _ _ (pt_ref hq) bl0) fun m438 n439 hn441 hq440 => (pt_retM hq440)))))) (fun _ => (zX1_readItem_41   _ _ (pt_rf dl0) _ _ rfl _ _ hq bl0)))))
theorem zX1_read_45 {p : Nat → Nat} {v0 r0 : ml_M} {k2 k2' : Nat → Int32 → ml_M → Option ml_M} (hk2 : ∀ (l0 l0' : Nat) (hl0 : pt_r p l0 l0') (l1 l1' : Int32) (hl1 : l1 = l1') (m n : ml_M) (hq : pt_Q p v0 r0 m n) (bl0 : l0 ≤ ml_n m), pt_T (pt_WM p v0 r0) (k2 l0 l1 m) (k2' l0' l1' n)) : ∀ (l0 l0' : Nat) (hl0 : pt_r p l0 l0') (l1 l1' : Int32) (hl1 : l1 = l1') (m n : ml_M) (hq : pt_Q p v0 r0 m n) (bl0 : l0 ≤ ml_n m), pt_T (pt_WM p v0 r0) (fX1_read_45 k2 l0 l1 m) (fX1_read_45 k2' l0' l1' n) := by
  intro l0 l0' hl0 l1 l1' hl1 m n hq bl0
  obtain ⟨rfl, dl0⟩ := hl0
  subst hl1
  unfold fX1_read_45
  exact (hk2 _ _ (pt_rf dl0) _ _ rfl _ _ hq bl0)
theorem zX1_read_2 {p : Nat → Nat} {v0 r0 : ml_M} : ∀ (fu : Nat) (l0 l0' : Nat) (hl0 : pt_r p l0 l0') (l1 l1' : Int32) (hl1 : l1 = l1') (m n : ml_M) (hq : pt_Q p v0 r0 m n) (bl0 : l0 ≤ ml_n m), pt_T (pt_WM p v0 r0) (fX1_read_2 fu l0 l1 m) (fX1_read_2 fu l0' l1' n) := by
  intro fu
  induction fu with
  | zero => intro l0 l0' hl0 l1 l1' hl1 m n hq bl0; exact pt_none
  | succ fu ih =>
  intro l0 l0' hl0 l1 l1' hl1 m n hq bl0
  obtain ⟨rfl, dl0⟩ := hl0
  subst hl1
  have hk2 := ih
  unfold fX1_read_2
  exact (pt_ck (pt_kc hq (pt_rf dl0)) fun hc448 => (pt_letr (pt_R hq (pt_rf dl0) hc448) (pt_Rb hq (pt_rf dl0) hc448) fun a449 d_a449 b_a449 => (pt_ck (pt_kc hq (pt_rf d_a449)) fun hc450 => (pt_ite (pt_e2 (fun (a b : Int32) => b ≤ a) rfl (pt_len hq (pt_rf d_a449))) (fun _ => (pt_retM hq)) (fun _ => (pt_ite (pt_e2 (fun (a b : Int32) => a = b) (pt_I hq (pt_rf dl0) hc448) rfl) (fun _ => (pt_letr (pt_R hq (pt_rf dl0) hc448) (pt_Rb hq (pt_rf dl0) hc448) fun a451 d_a451 b_a451 => (pt_ck (pt_kc hq (pt_rf d_a451)) fun hc452 => (pt_ite (pt_e2 (fun (a b : Int32) => b ≤ a) (pt_I hq (pt_rf dl0) hc448) (pt_len hq (pt_rf d_a451))) (fun _ => (zX1_read_45 hk2  _ _ (pt_rf dl0) _ _ rfl _ _ hq bl0)) (fun _ => (pt_letr (pt_R hq (pt_rf dl0) hc448) (pt_Rb hq (pt_rf dl0) hc448) fun a453 d_a453 b_a453 => (pt_ck (pt_in hq (pt_rf d_a453) (pt_I hq (pt_rf dl0) hc448)) fun hi454 => (pt_b1m hq (zX1_readItem _ _ (pt_rf dl0) _ _ (pt_Ia hq (pt_rf d_a453) hi454.1 (pt_I hq (pt_rf dl0) hc448)) _ _ (pt_ref hq) bl0) fun m455 n456 hn458 hq457 => (zX1_read_45 hk2  _ _ (pt_rf dl0) _ _ rfl _ _ hq457 (Nat.le_trans bl0 hn458)))))))))) (fun _ => (zX1_read_45 hk2  _ _ (pt_rf dl0) _ _ rfl _ _ hq bl0))))))))
theorem zX1_read {p : Nat → Nat} {v0 r0 : ml_M} : ∀ (l0 l0' : Nat) (hl0 : pt_r p l0 l0') (m n : ml_M) (hq : pt_Q p v0 r0 m n) (bl0 : l0 ≤ ml_n m), pt_T (pt_WM p v0 r0) (fX1_read l0 m) (fX1_read l0' n) := by
  intro l0 l0' hl0 m n hq bl0
  obtain ⟨rfl, dl0⟩ := hl0
  unfold fX1_read
  exact (zX1_read_2  ml_fu _ _ (pt_rf dl0) _ _ rfl _ _ hq bl0)
theorem zX10_fault {p : Nat → Nat} {v0 r0 : ml_M} : ∀ (l0 l0' : Nat) (hl0 : pt_r p l0 l0') (l1 l1' : Int32) (hl1 : l1 = l1') (m n : ml_M) (hq : pt_Q p v0 r0 m n) (bl0 : l0 ≤ ml_n m), pt_T (pt_WV p v0 r0) (fX10_fault l0 l1 m) (fX10_fault l0' l1' n) := by
  intro l0 l0' hl0 l1 l1' hl1 m n hq bl0
  obtain ⟨rfl, dl0⟩ := hl0
  subst hl1
  unfold fX10_fault
  exact (pt_b1 (zX10_isText _ _ rfl _ _ hq) fun r459 => (pt_ite rfl (fun _ => (pt_retV rfl hq)) (fun _ => (pt_ck (pt_kc hq (pt_rf dl0)) fun hc460 => (pt_letr (pt_R hq (pt_rf dl0) hc460) (pt_Rb hq (pt_rf dl0) hc460) fun a461 d_a461 b_a461 => (pt_ck (pt_in hq (pt_rf d_a461) rfl) fun hi462 => pt_letr (pt_Ra hq (pt_rf d_a461) hi462.1 rfl) (pt_Rb hq (pt_rf d_a461) hi462.1) fun a463 d_a463 b_a463 => (pt_ite (pt_nul hq.1 (pt_rf d_a463)) (fun _ => (pt_b2 hq (zX10_found _ _ (pt_rf dl0) _ _ rfl _ _ (pt_ref hq) bl0) fun r480 m481 n482 hn484 hq483 => (pt_retV rfl hq483))) (fun _ => (pt_al hq rfl rfl fun a464 m465 n466 d_a464 b_a464 hn469 hc467 hq468 => (pt_b1m hq468 (zX1_init _ _ (pt_rf d_a464) _ _ (pt_rf d_a463) _ _ (pt_ref hq468) b_a464 (Nat.le_trans b_a463 hn469)) fun m470 n471 hn473 hq472 => (pt_ck (pt_kc hq472 (pt_rf d_a464)) fun hc474 => (pt_b1m hq472 (zX1_read _ _ (pt_rf d_a464) _ _ (pt_ref hq472) (Nat.le_trans b_a464 hn473)) fun m475 n476 hn478 hq477 => (pt_ck (pt_kc hq477 (pt_rf d_a464)) fun hc479 => (pt_retV (pt_I hq477 (pt_rf d_a464) hc479) hq477))))))))))))))
theorem zX10_book {p : Nat → Nat} {v0 r0 : ml_M} : ∀ (l0 l0' : Nat) (hl0 : pt_r p l0 l0') (l1 l1' : Int32) (hl1 : l1 = l1') (m n : ml_M) (hq : pt_Q p v0 r0 m n) (bl0 : l0 ≤ ml_n m), pt_T (pt_WV p v0 r0) (fX10_book l0 l1 m) (fX10_book l0' l1' n) := by
  intro l0 l0' hl0 l1 l1' hl1 m n hq bl0
  obtain ⟨rfl, dl0⟩ := hl0
  subst hl1
  unfold fX10_book
  exact (pt_b1 (zX10_isText _ _ rfl _ _ hq) fun r485 => (pt_ite rfl (fun _ => (pt_retV rfl hq)) (fun _ => (pt_ck (pt_kc hq (pt_rf dl0)) fun hc486 => (pt_letr (pt_R hq (pt_rf dl0) hc486) (pt_Rb hq (pt_rf dl0) hc486) fun a487 d_a487 b_a487 => (pt_ck (pt_in hq (pt_rf d_a487) rfl) fun hi488 => pt_letr (pt_Ra hq (pt_rf d_a487) hi488.1 rfl) (pt_Rb hq (pt_rf d_a487) hi488.1) fun a489 d_a489 b_a489 => (pt_ite (pt_nul hq.1 (pt_rf d_a489)) (fun _ => (pt_b2 hq (zX10_found _ _ (pt_rf dl0) _ _ rfl _ _ (pt_ref hq) bl0) fun r548 m549 n550 hn552 hq551 => (pt_retV rfl hq551))) (fun _ => (pt_al hq rfl rfl fun a490 m491 n492 d_a490 b_a490 hn495 hc493 hq494 => (pt_b1m hq494 (zX1_init _ _ (pt_rf d_a490) _ _ (pt_rf d_a489) _ _ (pt_ref hq494) b_a490 (Nat.le_trans b_a489 hn495)) fun m496 n497 hn499 hq498 => (pt_ck (pt_kc hq498 (pt_rf d_a490)) fun hc500 => (pt_b1m hq498 (zX1_read _ _ (pt_rf d_a490) _ _ (pt_ref hq498) (Nat.le_trans b_a490 hn499)) fun m501 n502 hn504 hq503 => (pt_ck (pt_kc hq503 (pt_rf d_a490)) fun hc505 => (pt_ite (pt_e2 (fun (a b : Int32) => a = b) (pt_I hq503 (pt_rf d_a490) hc505) rfl) (fun _ => (pt_ck (pt_kc hq503 (pt_rf dl0)) fun hc506 => (pt_letk rfl (Nat.le_refl _) (pt_sR hq503 (pt_rf dl0) (pt_rf d_a490) (Nat.le_trans (Nat.le_trans b_a490 hn499) hn504)) fun m507 n508 em509 hn511 hq510 => (pt_letk rfl (Nat.le_refl _) (pt_sI hq510 (pt_rf dl0) rfl) fun m512 n513 em514 hn516 hq515 => (pt_letk rfl (Nat.le_refl _) (pt_sI hq515 (pt_rf dl0) rfl) fun m517 n518 em519 hn521 hq520 => (pt_letk rfl (Nat.le_refl _) (pt_sI hq520 (pt_rf dl0) rfl) fun m522 n523 em524 hn526 hq525 => (pt_letk rfl (Nat.le_refl _) (pt_sI hq525 (pt_rf dl0) rfl) fun m527 n528 em529 hn531 hq530 => (pt_letr (pt_R hq530 (pt_rf dl0) (ml_kk em529 (ml_kk em524 (ml_kk em519 (ml_kk em514 (ml_kk em509 hc506)))))) (pt_Rb hq530 (pt_rf dl0) (ml_kk em529 (ml_kk em524 (ml_kk em519 (ml_kk em514 (ml_kk em509 hc506)))))) fun a532 d_a532 b_a532 => (pt_ck (pt_kc hq530 (pt_rf d_a532)) fun hc533 => (pt_letk rfl (Nat.le_refl _) (pt_sI hq530 (pt_rf d_a532) rfl) fun m534 n535 em536 hn538 hq537 => (pt_letr (pt_R hq537 (pt_rf dl0) (ml_kk em536 (ml_kk em529 (ml_kk em524 (ml_kk em519 (ml_kk em514 (ml_kk em509 hc506))))))) (pt_Rb hq537 (pt_rf dl0) (ml_kk em536 (ml_kk em529 (ml_kk em524 (ml_kk em519 (ml_kk em514 (ml_kk em509 hc506))))))) fun a539 d_a539 b_a539 => (pt_ck (pt_kc hq537 (pt_rf d_a539)) fun hc540 => (pt_letk rfl (Nat.le_refl _) (pt_sI hq537 (pt_rf d_a539) rfl) fun m541 n542 em543 hn545 hq544 => (pt_letr (pt_R hq544 (pt_rf dl0) (ml_kk em543 (ml_kk em536 (ml_kk em529 (ml_kk em524 (ml_kk em519 (ml_kk em514 (ml_kk em509 hc506)))))))) (pt_Rb hq544 (pt_rf dl0) (ml_kk em543 (ml_kk em536 (ml_kk em529 (ml_kk em524 (ml_kk em519 (ml_kk em514 (ml_kk em509 hc506)))))))) fun a546 d_a546 b_a546 => (pt_ck (pt_kc hq544 (pt_rf d_a546)) fun hc547 => (pt_retV (pt_I hq544 (pt_rf d_a546) hc547) hq544)))))))))))))))) (fun _ => (pt_retV rfl hq503))))))))))))))))
theorem zX10_ownAll_2 {p : Nat → Nat} {v0 r0 : ml_M} : ∀ (fu : Nat) (l0 l0' : Nat) (hl0 : pt_r p l0 l0') (l1 l1' : Int32) (hl1 : l1 = l1') (l2 l2' : Int32) (hl2 : l2 = l2') (m n : ml_M) (hq : pt_Q p v0 r0 m n) (bl0 : l0 ≤ ml_n m), pt_T pt_Wv (fX10_ownAll_2 fu l0 l1 l2 m) (fX10_ownAll_2 fu l0' l1' l2' n) := by
  intro fu
  induction fu with
  | zero => intro l0 l0' hl0 l1 l1' hl1 l2 l2' hl2 m n hq bl0; exact pt_none
  | succ fu ih =>
  intro l0 l0' hl0 l1 l1' hl1 l2 l2' hl2 m n hq bl0
  obtain ⟨rfl, dl0⟩ := hl0
  subst hl1
  subst hl2
  have hk2 := ih
  unfold fX10_ownAll_2
  exact (pt_ck (pt_kc hq (pt_rf dl0)) fun hc553 => (pt_ite (pt_e2 (fun (a b : Int32) => b ≤ a) rfl (pt_I hq (pt_rf dl0) hc553)) (fun _ => (pt_rtv rfl)) (fun _ => (pt_letr (pt_R hq (pt_rf dl0) hc553) (pt_Rb hq (pt_rf dl0) hc553) fun a554 d_a554 b_a554 => (pt_ck (pt_in hq (pt_rf d_a554) rfl) fun hi555 => pt_letr (pt_Ra hq (pt_rf d_a554) hi555.1 rfl) (pt_Rb hq (pt_rf d_a554) hi555.1) fun a556 d_a556 b_a556 => (pt_ck (pt_kc hq (pt_rf d_a556)) fun hc557 => (pt_ite (pt_e1 (fun (a : Int32) => a = 0) (pt_e2 (fun (a b : Int32) => a &&& b) (pt_I hq (pt_rf d_a556) hc557) rfl)) (fun _ => (pt_rtv rfl)) (fun _ => (hk2 _ _ (pt_rf dl0) _ _ rfl _ _ rfl _ _ hq bl0)))))))))
theorem zX10_ownAll {p : Nat → Nat} {v0 r0 : ml_M} : ∀ (l0 l0' : Nat) (hl0 : pt_r p l0 l0') (l1 l1' : Int32) (hl1 : l1 = l1') (m n : ml_M) (hq : pt_Q p v0 r0 m n) (bl0 : l0 ≤ ml_n m), pt_T pt_Wv (fX10_ownAll l0 l1 m) (fX10_ownAll l0' l1' n) := by
  intro l0 l0' hl0 l1 l1' hl1 m n hq bl0
  obtain ⟨rfl, dl0⟩ := hl0
  subst hl1
  unfold fX10_ownAll
  exact (zX10_ownAll_2  ml_fu _ _ (pt_rf dl0) _ _ rfl _ _ rfl _ _ hq bl0)
theorem zX10_fewest_55 {p : Nat → Nat} {v0 r0 : ml_M} {k5 k5' : Nat → Int32 → Int32 → ml_M → Option (Int32 × ml_M)} (hk5 : ∀ (l0 l0' : Nat) (hl0 : pt_r p l0 l0') (l1 l1' : Int32) (hl1 : l1 = l1') (l2 l2' : Int32) (hl2 : l2 = l2') (m n : ml_M) (hq : pt_Q p v0 r0 m n) (bl0 : l0 ≤ ml_n m), pt_T (pt_WV p v0 r0) (k5 l0 l1 l2 m) (k5' l0' l1' l2' n)) : ∀ (l0 l0' : Nat) (hl0 : pt_r p l0 l0') (l1 l1' : Int32) (hl1 : l1 = l1') (l2 l2' : Int32) (hl2 : l2 = l2') (m n : ml_M) (hq : pt_Q p v0 r0 m n) (bl0 : l0 ≤ ml_n m), pt_T (pt_WV p v0 r0) (fX10_fewest_55 k5 l0 l1 l2 m) (fX10_fewest_55 k5' l0' l1' l2' n) := by
  intro l0 l0' hl0 l1 l1' hl1 l2 l2' hl2 m n hq bl0
  obtain ⟨rfl, dl0⟩ := hl0
  subst hl1
  subst hl2
  unfold fX10_fewest_55
  exact (hk5 _ _ (pt_rf dl0) _ _ rfl _ _ rfl _ _ hq bl0)
theorem zX10_fewest_40 {p : Nat → Nat} {v0 r0 : ml_M} {k5 k5' : Nat → Int32 → Int32 → ml_M → Option (Int32 × ml_M)} (hk5 : ∀ (l0 l0' : Nat) (hl0 : pt_r p l0 l0') (l1 l1' : Int32) (hl1 : l1 = l1') (l2 l2' : Int32) (hl2 : l2 = l2') (m n : ml_M) (hq : pt_Q p v0 r0 m n) (bl0 : l0 ≤ ml_n m), pt_T (pt_WV p v0 r0) (k5 l0 l1 l2 m) (k5' l0' l1' l2' n)) : ∀ (l0 l0' : Nat) (hl0 : pt_r p l0 l0') (l1 l1' : Int32) (hl1 : l1 = l1') (l2 l2' : Int32) (hl2 : l2 = l2') (t0 t0' : Int32) (ht0 : t0 = t0') (m n : ml_M) (hq : pt_Q p v0 r0 m n) (bl0 : l0 ≤ ml_n m), pt_T (pt_WV p v0 r0) (fX10_fewest_40 k5 l0 l1 l2 t0 m) (fX10_fewest_40 k5' l0' l1' l2' t0' n) := by
  intro l0 l0' hl0 l1 l1' hl1 l2 l2' hl2 t0 t0' ht0 m n hq bl0
  obtain ⟨rfl, dl0⟩ := hl0
  subst hl1
  subst hl2
  subst ht0
  unfold fX10_fewest_40
  exact (pt_ite rfl (fun _ => (zX10_fewest_55 hk5  _ _ (pt_rf dl0) _ _ rfl _ _ rfl _ _ hq bl0)) (fun _ => (pt_ck (pt_kc hq (pt_rf dl0)) fun hc558 => (pt_b1 (zX10_ownAll _ _ (pt_rf dl0) _ _ rfl _ _ hq bl0) fun r559 => (pt_ite rfl (fun _ => (zX10_fewest_55 hk5  _ _ (pt_rf dl0) _ _ rfl _ _ rfl _ _ hq bl0)) (fun _ => (zX10_fewest_55 hk5  _ _ (pt_rf dl0) _ _ rfl _ _ rfl _ _ hq bl0)))))))
theorem zX10_fewest_35 {p : Nat → Nat} {v0 r0 : ml_M} {k5 k5' : Nat → Int32 → Int32 → ml_M → Option (Int32 × ml_M)} (hk5 : ∀ (l0 l0' : Nat) (hl0 : pt_r p l0 l0') (l1 l1' : Int32) (hl1 : l1 = l1') (l2 l2' : Int32) (hl2 : l2 = l2') (m n : ml_M) (hq : pt_Q p v0 r0 m n) (bl0 : l0 ≤ ml_n m), pt_T (pt_WV p v0 r0) (k5 l0 l1 l2 m) (k5' l0' l1' l2' n)) : ∀ (l0 l0' : Nat) (hl0 : pt_r p l0 l0') (l1 l1' : Int32) (hl1 : l1 = l1') (l2 l2' : Int32) (hl2 : l2 = l2') (m n : ml_M) (hq : pt_Q p v0 r0 m n) (bl0 : l0 ≤ ml_n m), pt_T (pt_WV p v0 r0) (fX10_fewest_35 k5 l0 l1 l2 m) (fX10_fewest_35 k5' l0' l1' l2' n) := by
  intro l0 l0' hl0 l1 l1' hl1 l2 l2' hl2 m n hq bl0
  obtain ⟨rfl, dl0⟩ := hl0
  subst hl1
  subst hl2
  unfold fX10_fewest_35
  exact (zX10_fewest_40 hk5  _ _ (pt_rf dl0) _ _ rfl _ _ rfl _ _ rfl _ _ hq bl0)
theorem zX10_fewest_61 {p : Nat → Nat} {v0 r0 : ml_M} : ∀ (l0 l0' : Nat) (hl0 : pt_r p l0 l0') (l1 l1' : Int32) (hl1 : l1 = l1') (m n : ml_M) (hq : pt_Q p v0 r0 m n) (bl0 : l0 ≤ ml_n m), pt_T (pt_WV p v0 r0) (fX10_fewest_61 l0 l1 m) (fX10_fewest_61 l0' l1' n) := by
  intro l0 l0' hl0 l1 l1' hl1 m n hq bl0
  obtain ⟨rfl, dl0⟩ := hl0
  subst hl1
  unfold fX10_fewest_61
  exact (pt_ite rfl (fun _ => (pt_ck (pt_kc hq (pt_rf dl0)) fun hc567 => (pt_b2 hq (zX10_found _ _ (pt_rf dl0) _ _ rfl _ _ (pt_ref hq) bl0) fun r568 m569 n570 hn572 hq571 => (pt_retV rfl hq571)))) (fun _ => (pt_ck (pt_kc hq (pt_rf dl0)) fun hc560 => (pt_letk rfl (Nat.le_refl _) (pt_sI hq (pt_rf dl0) rfl) fun m561 n562 em563 hn565 hq564 => (pt_b1 (zJ6_bitCount_0f7a4 _ _ rfl _ _ hq564) fun r566 => (pt_retV rfl hq564))))))
theorem zX10_fewest_5 {p : Nat → Nat} {v0 r0 : ml_M} : ∀ (fu : Nat) (l0 l0' : Nat) (hl0 : pt_r p l0 l0') (l1 l1' : Int32) (hl1 : l1 = l1') (l2 l2' : Int32) (hl2 : l2 = l2') (m n : ml_M) (hq : pt_Q p v0 r0 m n) (bl0 : l0 ≤ ml_n m), pt_T (pt_WV p v0 r0) (fX10_fewest_5 fu l0 l1 l2 m) (fX10_fewest_5 fu l0' l1' l2' n) := by
  intro fu
  induction fu with
  | zero => intro l0 l0' hl0 l1 l1' hl1 l2 l2' hl2 m n hq bl0; exact pt_none
  | succ fu ih =>
  intro l0 l0' hl0 l1 l1' hl1 l2 l2' hl2 m n hq bl0
  obtain ⟨rfl, dl0⟩ := hl0
  subst hl1
  subst hl2
  have hk5 := ih
  unfold fX10_fewest_5
  exact (pt_ck (pt_kc hq (pt_rf dl0)) fun hc573 => (pt_letr (pt_R hq (pt_rf dl0) hc573) (pt_Rb hq (pt_rf dl0) hc573) fun a574 d_a574 b_a574 => (pt_ck (pt_kc hq (pt_rf d_a574)) fun hc575 => (pt_ite (pt_e2 (fun (a b : Int32) => b ≤ a) rfl (pt_e2 (fun (a b : Int32) => a <<< (b &&& 31)) rfl (pt_I hq (pt_rf d_a574) hc575))) (fun _ => (zX10_fewest_61   _ _ (pt_rf dl0) _ _ rfl _ _ hq bl0)) (fun _ => (pt_ite rfl (fun _ => (zX10_fewest_35 hk5  _ _ (pt_rf dl0) _ _ rfl _ _ rfl _ _ hq bl0)) (fun _ => (pt_b1 (zJ6_bitCount_0f7a4 _ _ rfl _ _ hq) fun r576 => (pt_b1 (zJ6_bitCount_0f7a4 _ _ rfl _ _ hq) fun r577 => (pt_ite rfl (fun _ => (zX10_fewest_40 hk5  _ _ (pt_rf dl0) _ _ rfl _ _ rfl _ _ rfl _ _ hq bl0)) (fun _ => (zX10_fewest_35 hk5  _ _ (pt_rf dl0) _ _ rfl _ _ rfl _ _ hq bl0))))))))))))
theorem zX10_fewest {p : Nat → Nat} {v0 r0 : ml_M} : ∀ (l0 l0' : Nat) (hl0 : pt_r p l0 l0') (m n : ml_M) (hq : pt_Q p v0 r0 m n) (bl0 : l0 ≤ ml_n m), pt_T (pt_WV p v0 r0) (fX10_fewest l0 m) (fX10_fewest l0' n) := by
  intro l0 l0' hl0 m n hq bl0
  obtain ⟨rfl, dl0⟩ := hl0
  unfold fX10_fewest
  exact (zX10_fewest_5  ml_fu _ _ (pt_rf dl0) _ _ rfl _ _ rfl _ _ hq bl0)
theorem zX10_asked {p : Nat → Nat} {v0 r0 : ml_M} : ∀ (l0 l0' : Nat) (hl0 : pt_r p l0 l0') (m n : ml_M) (hq : pt_Q p v0 r0 m n) (bl0 : l0 ≤ ml_n m), pt_T pt_Wv (fX10_asked l0 m) (fX10_asked l0' n) := by
  intro l0 l0' hl0 m n hq bl0
  obtain ⟨rfl, dl0⟩ := hl0
  unfold fX10_asked
  exact (pt_ck (pt_kc hq (pt_rf dl0)) fun hc578 => (pt_rtv (pt_I hq (pt_rf dl0) hc578)))
theorem zX10_isThing {p : Nat → Nat} {v0 r0 : ml_M} : ∀ (l0 l0' : Nat) (hl0 : pt_r p l0 l0') (l1 l1' : Int32) (hl1 : l1 = l1') (m n : ml_M) (hq : pt_Q p v0 r0 m n) (bl0 : l0 ≤ ml_n m), pt_T pt_Wv (fX10_isThing l0 l1 m) (fX10_isThing l0' l1' n) := by
  intro l0 l0' hl0 l1 l1' hl1 m n hq bl0
  obtain ⟨rfl, dl0⟩ := hl0
  subst hl1
  unfold fX10_isThing
  exact (pt_ck (pt_kc hq (pt_rf dl0)) fun hc579 => (pt_b1 (zX10_within _ _ rfl _ _ rfl _ _ (pt_e2 (fun (a b : Int32) => a - b) (pt_I hq (pt_rf dl0) hc579) rfl) _ _ hq) fun r580 => (pt_ck (pt_z01 rfl) fun _ => (pt_rtv rfl))))
theorem zX10_may {p : Nat → Nat} {v0 r0 : ml_M} : ∀ (l0 l0' : Nat) (hl0 : pt_r p l0 l0') (l1 l1' : Int32) (hl1 : l1 = l1') (m n : ml_M) (hq : pt_Q p v0 r0 m n) (bl0 : l0 ≤ ml_n m), pt_T pt_Wv (fX10_may l0 l1 m) (fX10_may l0' l1' n) := by
  intro l0 l0' hl0 l1 l1' hl1 m n hq bl0
  obtain ⟨rfl, dl0⟩ := hl0
  subst hl1
  unfold fX10_may
  exact (pt_ck (pt_kc hq (pt_rf dl0)) fun hc581 => (pt_b1 (zX10_isThing _ _ (pt_rf dl0) _ _ rfl _ _ hq bl0) fun r582 => (pt_ite rfl (fun _ => (pt_rtv rfl)) (fun _ => (pt_letr (pt_R hq (pt_rf dl0) hc581) (pt_Rb hq (pt_rf dl0) hc581) fun a583 d_a583 b_a583 => (pt_ck (pt_in hq (pt_rf d_a583) rfl) fun hi584 => pt_letr (pt_Ra hq (pt_rf d_a583) hi584.1 rfl) (pt_Rb hq (pt_rf d_a583) hi584.1) fun a585 d_a585 b_a585 => (pt_ck (pt_kc hq (pt_rf d_a585)) fun hc586 => (pt_rtv (pt_I hq (pt_rf d_a585) hc586)))))))))
theorem zX10_fits_34 {p : Nat → Nat} {v0 r0 : ml_M} : ∀ (l0 l0' : Nat) (hl0 : pt_r p l0 l0') (l1 l1' : Int64) (hl1 : l1 = l1') (m n : ml_M) (hq : pt_Q p v0 r0 m n) (bl0 : l0 ≤ ml_n m), pt_T (pt_WV p v0 r0) (fX10_fits_34 l0 l1 m) (fX10_fits_34 l0' l1' n) := by
  intro l0 l0' hl0 l1 l1' hl1 m n hq bl0
  obtain ⟨rfl, dl0⟩ := hl0
  subst hl1
  unfold fX10_fits_34
  exact (pt_ck (pt_kc hq (pt_rf dl0)) fun hc587 => (pt_letk rfl (Nat.le_refl _) (pt_sJ hq (pt_rf dl0) rfl) fun m588 n589 em590 hn592 hq591 => (pt_ite rfl (fun _ => (pt_retV rfl hq591)) (fun _ => (pt_retV rfl hq591)))))
theorem zX10_fits_4 {p : Nat → Nat} {v0 r0 : ml_M} : ∀ (fu : Nat) (l0 l0' : Nat) (hl0 : pt_r p l0 l0') (l1 l1' : Int64) (hl1 : l1 = l1') (l3 l3' : Int32) (hl3 : l3 = l3') (m n : ml_M) (hq : pt_Q p v0 r0 m n) (bl0 : l0 ≤ ml_n m), pt_T (pt_WV p v0 r0) (fX10_fits_4 fu l0 l1 l3 m) (fX10_fits_4 fu l0' l1' l3' n) := by
  intro fu
  induction fu with
  | zero => intro l0 l0' hl0 l1 l1' hl1 l3 l3' hl3 m n hq bl0; exact pt_none
  | succ fu ih =>
  intro l0 l0' hl0 l1 l1' hl1 l3 l3' hl3 m n hq bl0
  obtain ⟨rfl, dl0⟩ := hl0
  subst hl1
  subst hl3
  have hk4 := ih
  unfold fX10_fits_4
  exact (pt_ck (pt_kc hq (pt_rf dl0)) fun hc593 => (pt_ite (pt_e2 (fun (a b : Int32) => b ≤ a) rfl (pt_I hq (pt_rf dl0) hc593)) (fun _ => (zX10_fits_34   _ _ (pt_rf dl0) _ _ rfl _ _ hq bl0)) (fun _ => (pt_letr (pt_R hq (pt_rf dl0) hc593) (pt_Rb hq (pt_rf dl0) hc593) fun a594 d_a594 b_a594 => (pt_ck (pt_in hq (pt_rf d_a594) rfl) fun hi595 => pt_letr (pt_Ra hq (pt_rf d_a594) hi595.1 rfl) (pt_Rb hq (pt_rf d_a594) hi595.1) fun a596 d_a596 b_a596 => (pt_ck (pt_kc hq (pt_rf d_a596)) fun hc597 => (pt_b1 (zJ6_bitCount_0f7a4 _ _ (pt_I hq (pt_rf d_a596) hc597) _ _ hq) fun r598 => (pt_leti rfl fun x599 => (hk4 _ _ (pt_rf dl0) _ _ rfl _ _ rfl _ _ hq bl0)))))))))
theorem zX10_fits {p : Nat → Nat} {v0 r0 : ml_M} : ∀ (l0 l0' : Nat) (hl0 : pt_r p l0 l0') (m n : ml_M) (hq : pt_Q p v0 r0 m n) (bl0 : l0 ≤ ml_n m), pt_T (pt_WV p v0 r0) (fX10_fits l0 m) (fX10_fits l0' n) := by
  intro l0 l0' hl0 m n hq bl0
  obtain ⟨rfl, dl0⟩ := hl0
  unfold fX10_fits
  exact (zX10_fits_4  ml_fu _ _ (pt_rf dl0) _ _ rfl _ _ rfl _ _ hq bl0)
theorem zX7_init {p : Nat → Nat} {v0 r0 : ml_M} : ∀ (l0 l0' : Nat) (hl0 : pt_r p l0 l0') (m n : ml_M) (hq : pt_Q p v0 r0 m n) (bl0 : l0 ≤ ml_n m), pt_T (pt_WM p v0 r0) (fX7_init l0 m) (fX7_init l0' n) := by
  intro l0 l0' hl0 m n hq bl0
  obtain ⟨rfl, dl0⟩ := hl0
  unfold fX7_init
  exact (pt_ck (pt_nzr (pt_rf dl0)) fun _ => (pt_ck (pt_kc hq (pt_rf dl0)) fun hc600 => (pt_letk rfl (Nat.le_refl _) (pt_sI hq (pt_rf dl0) rfl) fun m601 n602 em603 hn605 hq604 => (pt_al hq604 rfl rfl fun a606 m607 n608 d_a606 b_a606 hn611 hc609 hq610 => (pt_ck (pt_kc hq610 (pt_rf dl0)) fun hc612 => (pt_letk rfl (Nat.le_refl _) (pt_sR hq610 (pt_rf dl0) (pt_rf d_a606) b_a606) fun m613 n614 em615 hn617 hq616 => (pt_al hq616 rfl rfl fun a618 m619 n620 d_a618 b_a618 hn623 hc621 hq622 => (pt_ck (pt_kc hq622 (pt_rf dl0)) fun hc624 => (pt_letk rfl (Nat.le_refl _) (pt_sR hq622 (pt_rf dl0) (pt_rf d_a618) b_a618) fun m625 n626 em627 hn629 hq628 => (pt_al hq628 rfl rfl fun a630 m631 n632 d_a630 b_a630 hn635 hc633 hq634 => (pt_ck (pt_kc hq634 (pt_rf dl0)) fun hc636 => (pt_letk rfl (Nat.le_refl _) (pt_sR hq634 (pt_rf dl0) (pt_rf d_a630) b_a630) fun m637 n638 em639 hn641 hq640 => (pt_al hq640 rfl rfl fun a642 m643 n644 d_a642 b_a642 hn647 hc645 hq646 => (pt_ck (pt_kc hq646 (pt_rf dl0)) fun hc648 => (pt_letk rfl (Nat.le_refl _) (pt_sR hq646 (pt_rf dl0) (pt_rf d_a642) b_a642) fun m649 n650 em651 hn653 hq652 => (pt_al hq652 rfl rfl fun a654 m655 n656 d_a654 b_a654 hn659 hc657 hq658 => (pt_ck (pt_kc hq658 (pt_rf dl0)) fun hc660 => (pt_letk rfl (Nat.le_refl _) (pt_sR hq658 (pt_rf dl0) (pt_rf d_a654) b_a654) fun m661 n662 em663 hn665 hq664 => (pt_al hq664 rfl rfl fun a666 m667 n668 d_a666 b_a666 hn671 hc669 hq670 => (pt_ck (pt_kc hq670 (pt_rf dl0)) fun hc672 => (pt_letk rfl (Nat.le_refl _) (pt_sR hq670 (pt_rf dl0) (pt_rf d_a666) b_a666) fun m673 n674 em675 hn677 hq676 => (pt_al hq676 rfl rfl fun a678 m679 n680 d_a678 b_a678 hn683 hc681 hq682 => (pt_ck (pt_kc hq682 (pt_rf dl0)) fun hc684 => (pt_letk rfl (Nat.le_refl _) (pt_sR hq682 (pt_rf dl0) (pt_rf d_a678) b_a678) fun m685 n686 em687 hn689 hq688 => (pt_al hq688 rfl rfl fun a690 m691 n692 d_a690 b_a690 hn695 hc693 hq694 => (pt_ck (pt_kc hq694 (pt_rf dl0)) fun hc696 => (pt_letk rfl (Nat.le_refl _) (pt_sR hq694 (pt_rf dl0) (pt_rf d_a690) b_a690) fun m697 n698 em699 hn701 hq700 => (pt_retM hq700))))))))))))))))))))))))))))
theorem zX4_init {p : Nat → Nat} {v0 r0 : ml_M} : ∀ (l0 l0' : Nat) (hl0 : pt_r p l0 l0') (m n : ml_M) (hq : pt_Q p v0 r0 m n) (bl0 : l0 ≤ ml_n m), pt_T (pt_WM p v0 r0) (fX4_init l0 m) (fX4_init l0' n) := by
  intro l0 l0' hl0 m n hq bl0
  obtain ⟨rfl, dl0⟩ := hl0
  unfold fX4_init
  exact (pt_ck (pt_nzr (pt_rf dl0)) fun _ => (pt_ck (pt_kc hq (pt_rf dl0)) fun hc702 => (pt_letk rfl (Nat.le_refl _) (pt_sI hq (pt_rf dl0) rfl) fun m703 n704 em705 hn707 hq706 => (pt_al hq706 rfl rfl fun a708 m709 n710 d_a708 b_a708 hn713 hc711 hq712 => (pt_ck (pt_kc hq712 (pt_rf dl0)) fun hc714 => (pt_letk rfl (Nat.le_refl _) (pt_sR hq712 (pt_rf dl0) (pt_rf d_a708) b_a708) fun m715 n716 em717 hn719 hq718 => (pt_al hq718 rfl rfl fun a720 m721 n722 d_a720 b_a720 hn725 hc723 hq724 => (pt_ck (pt_kc hq724 (pt_rf dl0)) fun hc726 => (pt_letk rfl (Nat.le_refl _) (pt_sR hq724 (pt_rf dl0) (pt_rf d_a720) b_a720) fun m727 n728 em729 hn731 hq730 => (pt_al hq730 rfl rfl fun a732 m733 n734 d_a732 b_a732 hn737 hc735 hq736 => (pt_ck (pt_kc hq736 (pt_rf dl0)) fun hc738 => (pt_letk rfl (Nat.le_refl _) (pt_sR hq736 (pt_rf dl0) (pt_rf d_a732) b_a732) fun m739 n740 em741 hn743 hq742 => (pt_al hq742 rfl rfl fun a744 m745 n746 d_a744 b_a744 hn749 hc747 hq748 => (pt_ck (pt_kc hq748 (pt_rf dl0)) fun hc750 => (pt_letk rfl (Nat.le_refl _) (pt_sR hq748 (pt_rf dl0) (pt_rf d_a744) b_a744) fun m751 n752 em753 hn755 hq754 => (pt_retM hq754))))))))))))))))
theorem zX3_init {p : Nat → Nat} {v0 r0 : ml_M} : ∀ (l0 l0' : Nat) (hl0 : pt_r p l0 l0') (m n : ml_M) (hq : pt_Q p v0 r0 m n) (bl0 : l0 ≤ ml_n m), pt_T (pt_WM p v0 r0) (fX3_init l0 m) (fX3_init l0' n) := by
  intro l0 l0' hl0 m n hq bl0
  obtain ⟨rfl, dl0⟩ := hl0
  unfold fX3_init
  exact (pt_ck (pt_nzr (pt_rf dl0)) fun _ => (pt_al hq rfl rfl fun a756 m757 n758 d_a756 b_a756 hn761 hc759 hq760 => (pt_ck (pt_kc hq760 (pt_rf dl0)) fun hc762 => (pt_letk rfl (Nat.le_refl _) (pt_sR hq760 (pt_rf dl0) (pt_rf d_a756) b_a756) fun m763 n764 em765 hn767 hq766 => (pt_al hq766 rfl rfl fun a768 m769 n770 d_a768 b_a768 hn773 hc771 hq772 => (pt_ck (pt_kc hq772 (pt_rf dl0)) fun hc774 => (pt_letk rfl (Nat.le_refl _) (pt_sR hq772 (pt_rf dl0) (pt_rf d_a768) b_a768) fun m775 n776 em777 hn779 hq778 => (pt_al hq778 rfl rfl fun a780 m781 n782 d_a780 b_a780 hn785 hc783 hq784 => (pt_ck (pt_kc hq784 (pt_rf dl0)) fun hc786 => (pt_letk rfl (Nat.le_refl _) (pt_sR hq784 (pt_rf dl0) (pt_rf d_a780) b_a780) fun m787 n788 em789 hn791 hq790 => (pt_al hq790 rfl rfl fun a792 m793 n794 d_a792 b_a792 hn797 hc795 hq796 => (pt_ck (pt_kc hq796 (pt_rf dl0)) fun hc798 => (pt_letk rfl (Nat.le_refl _) (pt_sR hq796 (pt_rf dl0) (pt_rf d_a792) b_a792) fun m799 n800 em801 hn803 hq802 => (pt_al hq802 rfl rfl fun a804 m805 n806 d_a804 b_a804 hn809 hc807 hq808 => (pt_ck (pt_kc hq808 (pt_rf dl0)) fun hc810 => (pt_letk rfl (Nat.le_refl _) (pt_sR hq808 (pt_rf dl0) (pt_rf d_a804) b_a804) fun m811 n812 em813 hn815 hq814 => (pt_retM hq814)))))))))))))))))
theorem zX10_init {p : Nat → Nat} {v0 r0 : ml_M} : ∀ (l0 l0' : Nat) (hl0 : pt_r p l0 l0') (m n : ml_M) (hq : pt_Q p v0 r0 m n) (bl0 : l0 ≤ ml_n m), pt_T (pt_WM p v0 r0) (fX10_init l0 m) (fX10_init l0' n) := by
  intro l0 l0' hl0 m n hq bl0
  obtain ⟨rfl, dl0⟩ := hl0
  unfold fX10_init
  exact (pt_ck (pt_nzr (pt_rf dl0)) fun _ => (pt_al hq rfl rfl fun a816 m817 n818 d_a816 b_a816 hn821 hc819 hq820 => (pt_ck (pt_kc hq820 (pt_rf dl0)) fun hc822 => (pt_letk rfl (Nat.le_refl _) (pt_sR hq820 (pt_rf dl0) (pt_rf d_a816) b_a816) fun m823 n824 em825 hn827 hq826 => (pt_al hq826 rfl rfl fun a828 m829 n830 d_a828 b_a828 hn833 hc831 hq832 => (pt_ck (pt_kc hq832 (pt_rf dl0)) fun hc834 => (pt_letk rfl (Nat.le_refl _) (pt_sR hq832 (pt_rf dl0) (pt_rf d_a828) b_a828) fun m835 n836 em837 hn839 hq838 => (pt_al hq838 rfl rfl fun a840 m841 n842 d_a840 b_a840 hn845 hc843 hq844 => (pt_al hq844 rfl rfl fun a846 m847 n848 d_a846 b_a846 hn851 hc849 hq850 => (pt_b1m hq850 (zX1_init _ _ (pt_rf d_a840) _ _ (pt_rf d_a846) _ _ (pt_ref hq850) (Nat.le_trans b_a840 hn851) b_a846) fun m852 n853 hn855 hq854 => (pt_ck (pt_kc hq854 (pt_rf dl0)) fun hc856 => (pt_letk rfl (Nat.le_refl _) (pt_sR hq854 (pt_rf dl0) (pt_rf d_a840) (Nat.le_trans (Nat.le_trans b_a840 hn851) hn855)) fun m857 n858 em859 hn861 hq860 => (pt_letk rfl (Nat.le_refl _) (pt_sI hq860 (pt_rf dl0) rfl) fun m862 n863 em864 hn866 hq865 => (pt_al hq865 rfl rfl fun a867 m868 n869 d_a867 b_a867 hn872 hc870 hq871 => (pt_ck (pt_kc hq871 (pt_rf dl0)) fun hc873 => (pt_letk rfl (Nat.le_refl _) (pt_sR hq871 (pt_rf dl0) (pt_rf d_a867) b_a867) fun m874 n875 em876 hn878 hq877 => (pt_al hq877 rfl rfl fun a879 m880 n881 d_a879 b_a879 hn884 hc882 hq883 => (pt_ck (pt_kc hq883 (pt_rf dl0)) fun hc885 => (pt_letk rfl (Nat.le_refl _) (pt_sR hq883 (pt_rf dl0) (pt_rf d_a879) b_a879) fun m886 n887 em888 hn890 hq889 => (pt_al hq889 rfl rfl fun a891 m892 n893 d_a891 b_a891 hn896 hc894 hq895 => (pt_ck (pt_kc hq895 (pt_rf dl0)) fun hc897 => (pt_letk rfl (Nat.le_refl _) (pt_sR hq895 (pt_rf dl0) (pt_rf d_a891) b_a891) fun m898 n899 em900 hn902 hq901 => (pt_al hq901 rfl rfl fun a903 m904 n905 d_a903 b_a903 hn908 hc906 hq907 => (pt_ck (pt_kc hq907 (pt_rf dl0)) fun hc909 => (pt_letk rfl (Nat.le_refl _) (pt_sR hq907 (pt_rf dl0) (pt_rf d_a903) b_a903) fun m910 n911 em912 hn914 hq913 => (pt_al hq913 rfl rfl fun a915 m916 n917 d_a915 b_a915 hn920 hc918 hq919 => (pt_b1m hq919 (zX7_init _ _ (pt_rf d_a915) _ _ (pt_ref hq919) b_a915) fun m921 n922 hn924 hq923 => (pt_ck (pt_kc hq923 (pt_rf dl0)) fun hc925 => (pt_letk rfl (Nat.le_refl _) (pt_sR hq923 (pt_rf dl0) (pt_rf d_a915) (Nat.le_trans b_a915 hn924)) fun m926 n927 em928 hn930 hq929 => (pt_al hq929 rfl rfl fun a931 m932 n933 d_a931 b_a931 hn936 hc934 hq935 => (pt_b1m hq935 (zX4_init _ _ (pt_rf d_a931) _ _ (pt_ref hq935) b_a931) fun m937 n938 hn940 hq939 => (pt_ck (pt_kc hq939 (pt_rf dl0)) fun hc941 => (pt_letk rfl (Nat.le_refl _) (pt_sR hq939 (pt_rf dl0) (pt_rf d_a931) (Nat.le_trans b_a931 hn940)) fun m942 n943 em944 hn946 hq945 => (pt_al hq945 rfl rfl fun a947 m948 n949 d_a947 b_a947 hn952 hc950 hq951 => (pt_b1m hq951 (zX3_init _ _ (pt_rf d_a947) _ _ (pt_ref hq951) b_a947) fun m953 n954 hn956 hq955 => (pt_ck (pt_kc hq955 (pt_rf dl0)) fun hc957 => (pt_letk rfl (Nat.le_refl _) (pt_sR hq955 (pt_rf dl0) (pt_rf d_a947) (Nat.le_trans b_a947 hn956)) fun m958 n959 em960 hn962 hq961 => (pt_al hq961 rfl rfl fun a963 m964 n965 d_a963 b_a963 hn968 hc966 hq967 => (pt_ck (pt_kc hq967 (pt_rf dl0)) fun hc969 => (pt_letk rfl (Nat.le_refl _) (pt_sR hq967 (pt_rf dl0) (pt_rf d_a963) b_a963) fun m970 n971 em972 hn974 hq973 => (pt_retM hq973)))))))))))))))))))))))))))))))))))))))))
theorem zX10_areYears {p : Nat → Nat} {v0 r0 : ml_M} : ∀ (l0 l0' : Int32) (hl0 : l0 = l0') (l1 l1' : Int32) (hl1 : l1 = l1') (m n : ml_M) (hq : pt_Q p v0 r0 m n), pt_T pt_Wv (fX10_areYears l0 l1 m) (fX10_areYears l0' l1' n) := by
  intro l0 l0' hl0 l1 l1' hl1 m n hq
  subst hl0
  subst hl1
  unfold fX10_areYears
  exact (pt_ite rfl (fun _ => (pt_rtv rfl)) (fun _ => (pt_ite rfl (fun _ => (pt_rtv rfl)) (fun _ => (pt_ite rfl (fun _ => (pt_rtv rfl)) (fun _ => (pt_rtv rfl)))))))
theorem zX10_isKeyNumber_17 {p : Nat → Nat} {v0 r0 : ml_M} : ∀ (fu : Nat) (l1 l1' : Int32) (hl1 : l1 = l1') (m n : ml_M) (hq : pt_Q p v0 r0 m n), pt_T pt_Wv (fX10_isKeyNumber_17 fu l1 m) (fX10_isKeyNumber_17 fu l1' n) := by
  intro fu
  induction fu with
  | zero => intro l1 l1' hl1 m n hq; exact pt_none
  | succ fu ih =>
  intro l1 l1' hl1 m n hq
  subst hl1
  have hk17 := ih
  unfold fX10_isKeyNumber_17
  exact (pt_ite rfl (fun _ => (pt_rtv rfl)) (fun _ => (pt_b1 (zX10_within _ _ rfl _ _ rfl _ _ rfl _ _ hq) fun r975 => (pt_ite rfl (fun _ => (pt_rtv rfl)) (fun _ => (pt_leti rfl fun x976 => (hk17 _ _ rfl _ _ hq)))))))
theorem zX10_isKeyNumber {p : Nat → Nat} {v0 r0 : ml_M} : ∀ (l0 l0' : Int32) (hl0 : l0 = l0') (m n : ml_M) (hq : pt_Q p v0 r0 m n), pt_T pt_Wv (fX10_isKeyNumber l0 m) (fX10_isKeyNumber l0' n) := by
  intro l0 l0' hl0 m n hq
  subst hl0
  unfold fX10_isKeyNumber
  exact (pt_b1 (zX10_within _ _ rfl _ _ rfl _ _ rfl _ _ hq) fun r977 => (pt_ite rfl (fun _ => (pt_rtv rfl)) (fun _ => (zX10_isKeyNumber_17  ml_fu _ _ rfl _ _ hq))))
theorem zX10_numberOf {p : Nat → Nat} {v0 r0 : ml_M} : ∀ (l0 l0' : Int32) (hl0 : l0 = l0') (l1 l1' : Int32) (hl1 : l1 = l1') (l2 l2' : Int32) (hl2 : l2 = l2') (m n : ml_M) (hq : pt_Q p v0 r0 m n), pt_T pt_Wv (fX10_numberOf l0 l1 l2 m) (fX10_numberOf l0' l1' l2' n) := by
  intro l0 l0' hl0 l1 l1' hl1 l2 l2' hl2 m n hq
  subst hl0
  subst hl1
  subst hl2
  unfold fX10_numberOf
  exact (pt_ite rfl (fun _ => (pt_b1 (zX10_within _ _ rfl _ _ rfl _ _ rfl _ _ hq) fun r978 => (pt_ite rfl (fun _ => (pt_rtv rfl)) (fun _ => (pt_rtv rfl))))) (fun _ => (pt_ite rfl (fun _ => (pt_b1 (zX10_within _ _ rfl _ _ rfl _ _ rfl _ _ hq) fun r979 => (pt_ite rfl (fun _ => (pt_rtv rfl)) (fun _ => (pt_b1 (zX10_within _ _ rfl _ _ rfl _ _ rfl _ _ hq) fun r980 => (pt_ite rfl (fun _ => (pt_rtv rfl)) (fun _ => (pt_rtv rfl)))))))) (fun _ => (pt_ite rfl (fun _ => (pt_b1 (zX10_within _ _ rfl _ _ rfl _ _ rfl _ _ hq) fun r981 => (pt_ite rfl (fun _ => (pt_rtv rfl)) (fun _ => (pt_ite rfl (fun _ => (pt_rtv rfl)) (fun _ => (pt_rtv rfl))))))) (fun _ => (pt_ite rfl (fun _ => (pt_b1 (zX10_within _ _ rfl _ _ rfl _ _ rfl _ _ hq) fun r982 => (pt_ite rfl (fun _ => (pt_rtv rfl)) (fun _ => (pt_b1 (zX10_within _ _ rfl _ _ rfl _ _ rfl _ _ hq) fun r983 => (pt_ite rfl (fun _ => (pt_rtv rfl)) (fun _ => (pt_ite rfl (fun _ => (pt_rtv rfl)) (fun _ => (pt_rtv rfl)))))))))) (fun _ => (pt_ite rfl (fun _ => (pt_b1 (zX10_isKeyNumber _ _ rfl _ _ hq) fun r984 => (pt_ite rfl (fun _ => (pt_rtv rfl)) (fun _ => (pt_rtv rfl))))) (fun _ => (pt_rtv rfl)))))))))))
theorem zX10_isLodger {p : Nat → Nat} {v0 r0 : ml_M} : ∀ (l0 l0' : Nat) (hl0 : pt_r p l0 l0') (l1 l1' : Int32) (hl1 : l1 = l1') (m n : ml_M) (hq : pt_Q p v0 r0 m n) (bl0 : l0 ≤ ml_n m), pt_T pt_Wv (fX10_isLodger l0 l1 m) (fX10_isLodger l0' l1' n) := by
  intro l0 l0' hl0 l1 l1' hl1 m n hq bl0
  obtain ⟨rfl, dl0⟩ := hl0
  subst hl1
  unfold fX10_isLodger
  exact (pt_ck (pt_kc hq (pt_rf dl0)) fun hc985 => (pt_letr (pt_R hq (pt_rf dl0) hc985) (pt_Rb hq (pt_rf dl0) hc985) fun a986 d_a986 b_a986 => (pt_ck (pt_kc hq (pt_rf d_a986)) fun hc987 => (pt_b1 (zX10_within _ _ rfl _ _ rfl _ _ (pt_e2 (fun (a b : Int32) => a - b) (pt_I hq (pt_rf d_a986) hc987) rfl) _ _ hq) fun r988 => (pt_ck (pt_z01 rfl) fun _ => (pt_rtv rfl))))))
theorem zX8_init {p : Nat → Nat} {v0 r0 : ml_M} : ∀ (l0 l0' : Nat) (hl0 : pt_r p l0 l0') (l1 l1' : Int32) (hl1 : l1 = l1') (l2 l2' : Int32) (hl2 : l2 = l2') (l3 l3' : Int32) (hl3 : l3 = l3') (l4 l4' : Int32) (hl4 : l4 = l4') (l5 l5' : Int32) (hl5 : l5 = l5') (m n : ml_M) (hq : pt_Q p v0 r0 m n) (bl0 : l0 ≤ ml_n m), pt_T (pt_WM p v0 r0) (fX8_init l0 l1 l2 l3 l4 l5 m) (fX8_init l0' l1' l2' l3' l4' l5' n) := by
  intro l0 l0' hl0 l1 l1' hl1 l2 l2' hl2 l3 l3' hl3 l4 l4' hl4 l5 l5' hl5 m n hq bl0
  obtain ⟨rfl, dl0⟩ := hl0
  subst hl1
  subst hl2
  subst hl3
  subst hl4
  subst hl5
  unfold fX8_init
  exact (pt_ck (pt_nzr (pt_rf dl0)) fun _ => (pt_ck (pt_kc hq (pt_rf dl0)) fun hc989 => (pt_letk rfl (Nat.le_refl _) (pt_sI hq (pt_rf dl0) rfl) fun m990 n991 em992 hn994 hq993 => (pt_letk rfl (Nat.le_refl _) (pt_sI hq993 (pt_rf dl0) rfl) fun m995 n996 em997 hn999 hq998 => (pt_letk rfl (Nat.le_refl _) (pt_sI hq998 (pt_rf dl0) rfl) fun m1000 n1001 em1002 hn1004 hq1003 => (pt_letk rfl (Nat.le_refl _) (pt_sI hq1003 (pt_rf dl0) rfl) fun m1005 n1006 em1007 hn1009 hq1008 => (pt_letk rfl (Nat.le_refl _) (pt_sI hq1008 (pt_rf dl0) rfl) fun m1010 n1011 em1012 hn1014 hq1013 => (pt_letk rfl (Nat.le_refl _) (pt_sI hq1013 (pt_rf dl0) rfl) fun m1015 n1016 em1017 hn1019 hq1018 => (pt_retM hq1018)))))))))
theorem zX8_suitsAsLetter_20 {p : Nat → Nat} {v0 r0 : ml_M} : ∀ (l0 l0' : Nat) (hl0 : pt_r p l0 l0') (l1 l1' : Nat) (hl1 : pt_r p l1 l1') (m n : ml_M) (hq : pt_Q p v0 r0 m n) (bl0 : l0 ≤ ml_n m) (bl1 : l1 ≤ ml_n m), pt_T pt_Wv (fX8_suitsAsLetter_20 l0 l1 m) (fX8_suitsAsLetter_20 l0' l1' n) := by
  intro l0 l0' hl0 l1 l1' hl1 m n hq bl0 bl1
  obtain ⟨rfl, dl0⟩ := hl0
  obtain ⟨rfl, dl1⟩ := hl1
  unfold fX8_suitsAsLetter_20
  exact (pt_ck (pt_kc hq (pt_rf dl0)) fun hc1020 => (pt_ck (pt_kc hq (pt_rf dl1)) fun hc1021 => (pt_ite (pt_e2 (fun (a b : Int32) => a = b) (pt_e2 (fun (a b : Int32) => a - a / b * b) (pt_I hq (pt_rf dl0) hc1020) rfl) (pt_I hq (pt_rf dl1) hc1021)) (fun _ => (pt_rtv rfl)) (fun _ => (pt_rtv rfl)))))
theorem zX8_suitsAsLetter {p : Nat → Nat} {v0 r0 : ml_M} : ∀ (l0 l0' : Nat) (hl0 : pt_r p l0 l0') (l1 l1' : Nat) (hl1 : pt_r p l1 l1') (m n : ml_M) (hq : pt_Q p v0 r0 m n) (bl0 : l0 ≤ ml_n m) (bl1 : l1 ≤ ml_n m), pt_T pt_Wv (fX8_suitsAsLetter l0 l1 m) (fX8_suitsAsLetter l0' l1' n) := by
  intro l0 l0' hl0 l1 l1' hl1 m n hq bl0 bl1
  obtain ⟨rfl, dl0⟩ := hl0
  obtain ⟨rfl, dl1⟩ := hl1
  unfold fX8_suitsAsLetter
  exact (pt_ck (pt_kc hq (pt_rf dl0)) fun hc1022 => (pt_leti (pt_e2 (fun (a b : Int32) => a / b) (pt_I hq (pt_rf dl0) hc1022) rfl) fun x1023 => (pt_ite rfl (fun _ => (zX8_suitsAsLetter_20   _ _ (pt_rf dl0) _ _ (pt_rf dl1) _ _ hq bl0 bl1)) (fun _ => (pt_ck (pt_kc hq (pt_rf dl1)) fun hc1024 => (pt_ite (pt_e2 (fun (a b : Int32) => a = b) rfl (pt_I hq (pt_rf dl1) hc1024)) (fun _ => (zX8_suitsAsLetter_20   _ _ (pt_rf dl0) _ _ (pt_rf dl1) _ _ hq bl0 bl1)) (fun _ => (pt_rtv rfl))))))))
theorem zX8_suits_138 {p : Nat → Nat} {v0 r0 : ml_M} : ∀  (m n : ml_M) (hq : pt_Q p v0 r0 m n), pt_T pt_Wv (fX8_suits_138  m) (fX8_suits_138  n) := by
  intro  m n hq
  unfold fX8_suits_138
  exact (pt_rtv rfl)
theorem zX8_suits {p : Nat → Nat} {v0 r0 : ml_M} : ∀ (l0 l0' : Nat) (hl0 : pt_r p l0 l0') (l1 l1' : Nat) (hl1 : pt_r p l1 l1') (l2 l2' : Int32) (hl2 : l2 = l2') (m n : ml_M) (hq : pt_Q p v0 r0 m n) (bl0 : l0 ≤ ml_n m) (bl1 : l1 ≤ ml_n m), pt_T pt_Wv (fX8_suits l0 l1 l2 m) (fX8_suits l0' l1' l2' n) := by
  intro l0 l0' hl0 l1 l1' hl1 l2 l2' hl2 m n hq bl0 bl1
  obtain ⟨rfl, dl0⟩ := hl0
  obtain ⟨rfl, dl1⟩ := hl1
  subst hl2
  unfold fX8_suits
  exact (pt_ck (pt_kc hq (pt_rf dl0)) fun hc1025 => (pt_ck (pt_kc hq (pt_rf dl1)) fun hc1026 => (pt_ite (pt_e2 (fun (a b : Int32) => a < b) (pt_I hq (pt_rf dl0) hc1025) (pt_I hq (pt_rf dl1) hc1026)) (fun _ => (pt_rtv rfl)) (fun _ => (pt_ite (pt_e2 (fun (a b : Int32) => a ≤ b) (pt_I hq (pt_rf dl0) hc1025) (pt_I hq (pt_rf dl1) hc1026)) (fun _ => (pt_ite (pt_e1 (fun (a : Int32) => a = (1 : Int32)) (pt_I hq (pt_rf dl0) hc1025)) (fun _ => (pt_ite (pt_e2 (fun (a b : Int32) => b < a) (pt_e1 (fun (a : Int32) => if 0 ≤ a then a else 0 - a) (pt_e2 (fun (a b : Int32) => a - b) (pt_I hq (pt_rf dl0) hc1025) (pt_I hq (pt_rf dl1) hc1026))) rfl) (fun _ => (pt_rtv rfl)) (fun _ => (pt_rtv rfl)))) (fun _ => (pt_ite (pt_e1 (fun (a : Int32) => a = (2 : Int32)) (pt_I hq (pt_rf dl0) hc1025)) (fun _ => (pt_b1 (zX8_suitsAsLetter _ _ (pt_rf dl0) _ _ (pt_rf dl1) _ _ hq bl0 bl1) fun r1027 => (pt_ck (pt_z01 rfl) fun _ => (pt_rtv rfl)))) (fun _ => (pt_ite (pt_e1 (fun (a : Int32) => a = (3 : Int32)) (pt_I hq (pt_rf dl0) hc1025)) (fun _ => (pt_ite (pt_e2 (fun (a b : Int32) => a = b) rfl (pt_I hq (pt_rf dl0) hc1025)) (fun _ => (pt_b1 (zX8_suitsAsLetter _ _ (pt_rf dl0) _ _ (pt_rf dl1) _ _ hq bl0 bl1) fun r1028 => (pt_ite rfl (fun _ => (pt_rtv rfl)) (fun _ => (pt_rtv rfl))))) (fun _ => (pt_rtv rfl)))) (fun _ => (pt_ite (pt_e1 (fun (a : Int32) => a = (4 : Int32)) (pt_I hq (pt_rf dl0) hc1025)) (fun _ => (pt_ite (pt_e2 (fun (a b : Int32) => a = b) (pt_e2 (fun (a b : Int32) => a / b) (pt_I hq (pt_rf dl0) hc1025) rfl) (pt_I hq (pt_rf dl1) hc1026)) (fun _ => (zX8_suits_138    _ _ hq)) (fun _ => (pt_ite (pt_e2 (fun (a b : Int32) => a = b) (pt_e2 (fun (a b : Int32) => a - a / b * b) (pt_I hq (pt_rf dl0) hc1025) rfl) (pt_I hq (pt_rf dl1) hc1026)) (fun _ => (zX8_suits_138    _ _ hq)) (fun _ => (pt_rtv rfl)))))) (fun _ => (pt_rtv rfl)))))))))) (fun _ => (pt_rtv rfl)))))))
theorem zX10_ownersOf_38 {p : Nat → Nat} {v0 r0 : ml_M} {k4 k4' : Nat → Nat → Int32 → Int32 → ml_M → Option Int32} (hk4 : ∀ (l0 l0' : Nat) (hl0 : pt_r p l0 l0') (l1 l1' : Nat) (hl1 : pt_r p l1 l1') (l2 l2' : Int32) (hl2 : l2 = l2') (l3 l3' : Int32) (hl3 : l3 = l3') (m n : ml_M) (hq : pt_Q p v0 r0 m n) (bl0 : l0 ≤ ml_n m) (bl1 : l1 ≤ ml_n m), pt_T pt_Wv (k4 l0 l1 l2 l3 m) (k4' l0' l1' l2' l3' n)) : ∀ (l0 l0' : Nat) (hl0 : pt_r p l0 l0') (l1 l1' : Nat) (hl1 : pt_r p l1 l1') (l2 l2' : Int32) (hl2 : l2 = l2') (l3 l3' : Int32) (hl3 : l3 = l3') (m n : ml_M) (hq : pt_Q p v0 r0 m n) (bl0 : l0 ≤ ml_n m) (bl1 : l1 ≤ ml_n m), pt_T pt_Wv (fX10_ownersOf_38 k4 l0 l1 l2 l3 m) (fX10_ownersOf_38 k4' l0' l1' l2' l3' n) := by
  intro l0 l0' hl0 l1 l1' hl1 l2 l2' hl2 l3 l3' hl3 m n hq bl0 bl1
  obtain ⟨rfl, dl0⟩ := hl0
  obtain ⟨rfl, dl1⟩ := hl1
  subst hl2
  subst hl3
  unfold fX10_ownersOf_38
  exact (hk4 _ _ (pt_rf dl0) _ _ (pt_rf dl1) _ _ rfl _ _ rfl _ _ hq bl0 bl1)
theorem zX10_ownersOf_4 {p : Nat → Nat} {v0 r0 : ml_M} : ∀ (fu : Nat) (l0 l0' : Nat) (hl0 : pt_r p l0 l0') (l1 l1' : Nat) (hl1 : pt_r p l1 l1') (l2 l2' : Int32) (hl2 : l2 = l2') (l3 l3' : Int32) (hl3 : l3 = l3') (m n : ml_M) (hq : pt_Q p v0 r0 m n) (bl0 : l0 ≤ ml_n m) (bl1 : l1 ≤ ml_n m), pt_T pt_Wv (fX10_ownersOf_4 fu l0 l1 l2 l3 m) (fX10_ownersOf_4 fu l0' l1' l2' l3' n) := by
  intro fu
  induction fu with
  | zero => intro l0 l0' hl0 l1 l1' hl1 l2 l2' hl2 l3 l3' hl3 m n hq bl0 bl1; exact pt_none
  | succ fu ih =>
  intro l0 l0' hl0 l1 l1' hl1 l2 l2' hl2 l3 l3' hl3 m n hq bl0 bl1
  obtain ⟨rfl, dl0⟩ := hl0
  obtain ⟨rfl, dl1⟩ := hl1
  subst hl2
  subst hl3
  have hk4 := ih
  unfold fX10_ownersOf_4
  exact (pt_ck (pt_kc hq (pt_rf dl0)) fun hc1029 => (pt_letr (pt_R hq (pt_rf dl0) hc1029) (pt_Rb hq (pt_rf dl0) hc1029) fun a1030 d_a1030 b_a1030 => (pt_ck (pt_kc hq (pt_rf d_a1030)) fun hc1031 => (pt_ite (pt_e2 (fun (a b : Int32) => b ≤ a) rfl (pt_I hq (pt_rf d_a1030) hc1031)) (fun _ => (pt_rtv rfl)) (fun _ => (pt_letr (pt_R hq (pt_rf dl0) hc1029) (pt_Rb hq (pt_rf dl0) hc1029) fun a1032 d_a1032 b_a1032 => (pt_ck (pt_kc hq (pt_rf d_a1032)) fun hc1033 => (pt_letr (pt_R hq (pt_rf d_a1032) hc1033) (pt_Rb hq (pt_rf d_a1032) hc1033) fun a1034 d_a1034 b_a1034 => (pt_ck (pt_in hq (pt_rf d_a1034) rfl) fun hi1035 => pt_letr (pt_Ra hq (pt_rf d_a1034) hi1035.1 rfl) (pt_Rb hq (pt_rf d_a1034) hi1035.1) fun a1036 d_a1036 b_a1036 => (pt_ck (pt_kc hq (pt_rf dl1)) fun hc1037 => (pt_b1 (zX8_suits _ _ (pt_rf dl1) _ _ (pt_rf d_a1036) _ _ rfl _ _ hq bl1 b_a1036) fun r1038 => (pt_ite rfl (fun _ => (zX10_ownersOf_38 hk4  _ _ (pt_rf dl0) _ _ (pt_rf dl1) _ _ rfl _ _ rfl _ _ hq bl0 bl1)) (fun _ => (pt_leti rfl fun x1039 => (zX10_ownersOf_38 hk4  _ _ (pt_rf dl0) _ _ (pt_rf dl1) _ _ rfl _ _ rfl _ _ hq bl0 bl1)))))))))))))))
theorem zX10_ownersOf {p : Nat → Nat} {v0 r0 : ml_M} : ∀ (l0 l0' : Nat) (hl0 : pt_r p l0 l0') (l1 l1' : Nat) (hl1 : pt_r p l1 l1') (m n : ml_M) (hq : pt_Q p v0 r0 m n) (bl0 : l0 ≤ ml_n m) (bl1 : l1 ≤ ml_n m), pt_T pt_Wv (fX10_ownersOf l0 l1 m) (fX10_ownersOf l0' l1' n) := by
  intro l0 l0' hl0 l1 l1' hl1 m n hq bl0 bl1
  obtain ⟨rfl, dl0⟩ := hl0
  obtain ⟨rfl, dl1⟩ := hl1
  unfold fX10_ownersOf
  exact (zX10_ownersOf_4  ml_fu _ _ (pt_rf dl0) _ _ (pt_rf dl1) _ _ rfl _ _ rfl _ _ hq bl0 bl1)
theorem zX10_thing_77 {p : Nat → Nat} {v0 r0 : ml_M} : ∀ (l0 l0' : Nat) (hl0 : pt_r p l0 l0') (t0 t0' : Int32) (ht0 : t0 = t0') (t1 t1' : Int32) (ht1 : t1 = t1') (t2 t2' : Int32) (ht2 : t2 = t2') (t3 t3' : Int32) (ht3 : t3 = t3') (t4 t4' : Int32) (ht4 : t4 = t4') (t5 t5' : Nat) (ht5 : pt_r p t5 t5') (t6 t6' : Nat) (ht6 : pt_r p t6 t6') (m n : ml_M) (hq : pt_Q p v0 r0 m n) (bl0 : l0 ≤ ml_n m) (bt5 : t5 ≤ ml_n m) (bt6 : t6 ≤ ml_n m), pt_T (pt_WV p v0 r0) (fX10_thing_77 l0 t0 t1 t2 t3 t4 t5 t6 m) (fX10_thing_77 l0' t0' t1' t2' t3' t4' t5' t6' n) := by
  intro l0 l0' hl0 t0 t0' ht0 t1 t1' ht1 t2 t2' ht2 t3 t3' ht3 t4 t4' ht4 t5 t5' ht5 t6 t6' ht6 m n hq bl0 bt5 bt6
  obtain ⟨rfl, dl0⟩ := hl0
  subst ht0
  subst ht1
  subst ht2
  subst ht3
  subst ht4
  obtain ⟨rfl, dt5⟩ := ht5
  obtain ⟨rfl, dt6⟩ := ht6
  unfold fX10_thing_77
  exact (pt_ck (pt_nzr (pt_rf dt5)) fun _ => (pt_b1m hq (zX8_init _ _ (pt_rf dt5) _ _ rfl _ _ rfl _ _ rfl _ _ rfl _ _ rfl _ _ (pt_ref hq) bt5) fun m1040 n1041 hn1043 hq1042 => (pt_ck (pt_kc hq1042 (pt_rf dl0)) fun hc1044 => (pt_b1 (zX10_ownersOf _ _ (pt_rf dl0) _ _ (pt_rf dt6) _ _ hq1042 (Nat.le_trans bl0 hn1043) (Nat.le_trans bt6 hn1043)) fun r1045 => (pt_ck (pt_kc hq1042 (pt_rf dt6)) fun hc1046 => (pt_letk rfl (Nat.le_refl _) (pt_sI hq1042 (pt_rf dt6) rfl) fun m1047 n1048 em1049 hn1051 hq1050 => (pt_letr (pt_R hq1050 (pt_rf dl0) (ml_kk em1049 hc1044)) (pt_Rb hq1050 (pt_rf dl0) (ml_kk em1049 hc1044)) fun a1052 d_a1052 b_a1052 => (pt_ck (pt_in hq1050 (pt_rf d_a1052) (pt_I hq1050 (pt_rf dl0) (ml_kk em1049 hc1044))) fun hi1053 => (pt_letk rfl (Nat.le_refl _) (pt_sRa hq1050 (pt_rf d_a1052) (pt_I hq1050 (pt_rf dl0) (ml_kk em1049 hc1044)) (pt_rf dt6) (Nat.le_trans (Nat.le_trans bt6 hn1043) hn1051)) fun m1054 n1055 em1056 hn1058 hq1057 => (pt_letr (pt_R hq1057 (pt_rf dl0) (ml_kk em1056 (ml_kk em1049 hc1044))) (pt_Rb hq1057 (pt_rf dl0) (ml_kk em1056 (ml_kk em1049 hc1044))) fun a1059 d_a1059 b_a1059 => (pt_ck (pt_kc hq1057 (pt_rf d_a1059)) fun hc1060 => (pt_letk rfl (Nat.le_refl _) (pt_sI hq1057 (pt_rf d_a1059) rfl) fun m1061 n1062 em1063 hn1065 hq1064 => (pt_letk rfl (Nat.le_refl _) (pt_sI hq1064 (pt_rf dl0) (pt_e2 (fun (a b : Int32) => a + b) (pt_I hq1064 (pt_rf dl0) (ml_kk em1063 (ml_kk em1056 (ml_kk em1049 hc1044)))) rfl)) fun m1066 n1067 em1068 hn1070 hq1069 => (pt_retV (pt_I hq1064 (pt_rf dl0) (ml_kk em1063 (ml_kk em1056 (ml_kk em1049 hc1044)))) hq1069))))))))))))))
theorem zX10_thing_44 {p : Nat → Nat} {v0 r0 : ml_M} : ∀ (l0 l0' : Nat) (hl0 : pt_r p l0 l0') (l1 l1' : Int32) (hl1 : l1 = l1') (l2 l2' : Int32) (hl2 : l2 = l2') (l3 l3' : Int32) (hl3 : l3 = l3') (l5 l5' : Int32) (hl5 : l5 = l5') (l6 l6' : Int32) (hl6 : l6 = l6') (m n : ml_M) (hq : pt_Q p v0 r0 m n) (bl0 : l0 ≤ ml_n m), pt_T (pt_WV p v0 r0) (fX10_thing_44 l0 l1 l2 l3 l5 l6 m) (fX10_thing_44 l0' l1' l2' l3' l5' l6' n) := by
  intro l0 l0' hl0 l1 l1' hl1 l2 l2' hl2 l3 l3' hl3 l5 l5' hl5 l6 l6' hl6 m n hq bl0
  obtain ⟨rfl, dl0⟩ := hl0
  subst hl1
  subst hl2
  subst hl3
  subst hl5
  subst hl6
  unfold fX10_thing_44
  exact (pt_ck (pt_kc hq (pt_rf dl0)) fun hc1071 => (pt_ite (pt_e2 (fun (a b : Int32) => a < b) (pt_I hq (pt_rf dl0) hc1071) rfl) (fun _ => (pt_al hq rfl rfl fun a1072 m1073 n1074 d_a1072 b_a1072 hn1077 hc1075 hq1076 => (pt_ite rfl (fun _ => (zX10_thing_77   _ _ (pt_rf dl0) _ _ rfl _ _ rfl _ _ rfl _ _ rfl _ _ rfl _ _ (pt_rf d_a1072) _ _ (pt_rf d_a1072) _ _ hq1076 (Nat.le_trans bl0 hn1077) b_a1072 b_a1072)) (fun _ => (zX10_thing_77   _ _ (pt_rf dl0) _ _ rfl _ _ rfl _ _ rfl _ _ rfl _ _ rfl _ _ (pt_rf d_a1072) _ _ (pt_rf d_a1072) _ _ hq1076 (Nat.le_trans bl0 hn1077) b_a1072 b_a1072))))) (fun _ => (pt_retV rfl hq))))
theorem zX10_thing {p : Nat → Nat} {v0 r0 : ml_M} : ∀ (l0 l0' : Nat) (hl0 : pt_r p l0 l0') (l1 l1' : Int32) (hl1 : l1 = l1') (l2 l2' : Int32) (hl2 : l2 = l2') (l3 l3' : Int32) (hl3 : l3 = l3') (l4 l4' : Int32) (hl4 : l4 = l4') (l5 l5' : Int32) (hl5 : l5 = l5') (m n : ml_M) (hq : pt_Q p v0 r0 m n) (bl0 : l0 ≤ ml_n m), pt_T (pt_WV p v0 r0) (fX10_thing l0 l1 l2 l3 l4 l5 m) (fX10_thing l0' l1' l2' l3' l4' l5' n) := by
  intro l0 l0' hl0 l1 l1' hl1 l2 l2' hl2 l3 l3' hl3 l4 l4' hl4 l5 l5' hl5 m n hq bl0
  obtain ⟨rfl, dl0⟩ := hl0
  subst hl1
  subst hl2
  subst hl3
  subst hl4
  subst hl5
  unfold fX10_thing
  exact (pt_b1 (zX10_areYears _ _ rfl _ _ rfl _ _ hq) fun r1078 => (pt_ite rfl (fun _ => (pt_retV rfl hq)) (fun _ => (pt_b1 (zX10_numberOf _ _ rfl _ _ rfl _ _ rfl _ _ hq) fun r1079 => (pt_ite rfl (fun _ => (pt_retV rfl hq)) (fun _ => (pt_ite rfl (fun _ => (pt_ck (pt_kc hq (pt_rf dl0)) fun hc1080 => (pt_b1 (zX10_isLodger _ _ (pt_rf dl0) _ _ rfl _ _ hq bl0) fun r1081 => (pt_ite rfl (fun _ => (pt_retV rfl hq)) (fun _ => (zX10_thing_44   _ _ (pt_rf dl0) _ _ rfl _ _ rfl _ _ rfl _ _ rfl _ _ rfl _ _ hq bl0)))))) (fun _ => (zX10_thing_44   _ _ (pt_rf dl0) _ _ rfl _ _ rfl _ _ rfl _ _ rfl _ _ rfl _ _ hq bl0)))))))))
theorem zX10_isTrunk {p : Nat → Nat} {v0 r0 : ml_M} : ∀ (l0 l0' : Nat) (hl0 : pt_r p l0 l0') (l1 l1' : Int32) (hl1 : l1 = l1') (m n : ml_M) (hq : pt_Q p v0 r0 m n) (bl0 : l0 ≤ ml_n m), pt_T pt_Wv (fX10_isTrunk l0 l1 m) (fX10_isTrunk l0' l1' n) := by
  intro l0 l0' hl0 l1 l1' hl1 m n hq bl0
  obtain ⟨rfl, dl0⟩ := hl0
  subst hl1
  unfold fX10_isTrunk
  exact (pt_ck (pt_kc hq (pt_rf dl0)) fun hc1082 => (pt_letr (pt_R hq (pt_rf dl0) hc1082) (pt_Rb hq (pt_rf dl0) hc1082) fun a1083 d_a1083 b_a1083 => (pt_ck (pt_kc hq (pt_rf d_a1083)) fun hc1084 => (pt_b1 (zX10_within _ _ rfl _ _ rfl _ _ (pt_e2 (fun (a b : Int32) => a - b) (pt_I hq (pt_rf d_a1083) hc1084) rfl) _ _ hq) fun r1085 => (pt_ck (pt_z01 rfl) fun _ => (pt_rtv rfl))))))
theorem zX10_lies_26 {p : Nat → Nat} {v0 r0 : ml_M} : ∀ (l0 l0' : Nat) (hl0 : pt_r p l0 l0') (l1 l1' : Int32) (hl1 : l1 = l1') (l2 l2' : Int32) (hl2 : l2 = l2') (l3 l3' : Int32) (hl3 : l3 = l3') (m n : ml_M) (hq : pt_Q p v0 r0 m n) (bl0 : l0 ≤ ml_n m), pt_T (pt_WV p v0 r0) (fX10_lies_26 l0 l1 l2 l3 m) (fX10_lies_26 l0' l1' l2' l3' n) := by
  intro l0 l0' hl0 l1 l1' hl1 l2 l2' hl2 l3 l3' hl3 m n hq bl0
  obtain ⟨rfl, dl0⟩ := hl0
  subst hl1
  subst hl2
  subst hl3
  unfold fX10_lies_26
  exact (pt_ck (pt_kc hq (pt_rf dl0)) fun hc1086 => (pt_letr (pt_R hq (pt_rf dl0) hc1086) (pt_Rb hq (pt_rf dl0) hc1086) fun a1087 d_a1087 b_a1087 => (pt_ck (pt_in hq (pt_rf d_a1087) rfl) fun hi1088 => pt_letr (pt_Ra hq (pt_rf d_a1087) hi1088.1 rfl) (pt_Rb hq (pt_rf d_a1087) hi1088.1) fun a1089 d_a1089 b_a1089 => (pt_ck (pt_kc hq (pt_rf d_a1089)) fun hc1090 => (pt_letk rfl (Nat.le_refl _) (pt_sI hq (pt_rf d_a1089) rfl) fun m1091 n1092 em1093 hn1095 hq1094 => (pt_letr (pt_R hq1094 (pt_rf dl0) (ml_kk em1093 hc1086)) (pt_Rb hq1094 (pt_rf dl0) (ml_kk em1093 hc1086)) fun a1096 d_a1096 b_a1096 => (pt_ck (pt_in hq1094 (pt_rf d_a1096) rfl) fun hi1097 => pt_letr (pt_Ra hq1094 (pt_rf d_a1096) hi1097.1 rfl) (pt_Rb hq1094 (pt_rf d_a1096) hi1097.1) fun a1098 d_a1098 b_a1098 => (pt_ck (pt_kc hq1094 (pt_rf d_a1098)) fun hc1099 => (pt_ck (pt_z01 rfl) fun _ => (pt_letk rfl (Nat.le_refl _) (pt_sI hq1094 (pt_rf d_a1098) rfl) fun m1100 n1101 em1102 hn1104 hq1103 => (pt_letr (pt_R hq1103 (pt_rf dl0) (ml_kk em1102 (ml_kk em1093 hc1086))) (pt_Rb hq1103 (pt_rf dl0) (ml_kk em1102 (ml_kk em1093 hc1086))) fun a1105 d_a1105 b_a1105 => (pt_ck (pt_kc hq1103 (pt_rf d_a1105)) fun hc1106 => (pt_letk rfl (Nat.le_refl _) (pt_sI hq1103 (pt_rf d_a1105) rfl) fun m1107 n1108 em1109 hn1111 hq1110 => (pt_retV rfl hq1110))))))))))))))
theorem zX10_lies {p : Nat → Nat} {v0 r0 : ml_M} : ∀ (l0 l0' : Nat) (hl0 : pt_r p l0 l0') (l1 l1' : Int32) (hl1 : l1 = l1') (l2 l2' : Int32) (hl2 : l2 = l2') (l3 l3' : Int32) (hl3 : l3 = l3') (m n : ml_M) (hq : pt_Q p v0 r0 m n) (bl0 : l0 ≤ ml_n m), pt_T (pt_WV p v0 r0) (fX10_lies l0 l1 l2 l3 m) (fX10_lies l0' l1' l2' l3' n) := by
  intro l0 l0' hl0 l1 l1' hl1 l2 l2' hl2 l3 l3' hl3 m n hq bl0
  obtain ⟨rfl, dl0⟩ := hl0
  subst hl1
  subst hl2
  subst hl3
  unfold fX10_lies
  exact (pt_ck (pt_kc hq (pt_rf dl0)) fun hc1112 => (pt_b1 (zX10_isThing _ _ (pt_rf dl0) _ _ rfl _ _ hq bl0) fun r1113 => (pt_ite rfl (fun _ => (pt_retV rfl hq)) (fun _ => (pt_ite rfl (fun _ => (zX10_lies_26   _ _ (pt_rf dl0) _ _ rfl _ _ rfl _ _ rfl _ _ hq bl0)) (fun _ => (pt_b1 (zX10_isTrunk _ _ (pt_rf dl0) _ _ rfl _ _ hq bl0) fun r1114 => (pt_ite rfl (fun _ => (pt_retV rfl hq)) (fun _ => (zX10_lies_26   _ _ (pt_rf dl0) _ _ rfl _ _ rfl _ _ rfl _ _ hq bl0))))))))))
theorem zX10_wear {p : Nat → Nat} {v0 r0 : ml_M} : ∀ (l0 l0' : Nat) (hl0 : pt_r p l0 l0') (l1 l1' : Int32) (hl1 : l1 = l1') (m n : ml_M) (hq : pt_Q p v0 r0 m n) (bl0 : l0 ≤ ml_n m), pt_T (pt_WV p v0 r0) (fX10_wear l0 l1 m) (fX10_wear l0' l1' n) := by
  intro l0 l0' hl0 l1 l1' hl1 m n hq bl0
  obtain ⟨rfl, dl0⟩ := hl0
  subst hl1
  unfold fX10_wear
  exact (pt_b1 (zX10_within _ _ rfl _ _ rfl _ _ rfl _ _ hq) fun r1115 => (pt_ite rfl (fun _ => (pt_retV rfl hq)) (fun _ => (pt_ck (pt_kc hq (pt_rf dl0)) fun hc1116 => (pt_leti (pt_I hq (pt_rf dl0) hc1116) fun x1117 => (pt_letk rfl (Nat.le_refl _) (pt_sI hq (pt_rf dl0) rfl) fun m1118 n1119 em1120 hn1122 hq1121 => (pt_retV rfl hq1121)))))))
theorem zX10_turns_56 {p : Nat → Nat} {v0 r0 : ml_M} : ∀ (l0 l0' : Nat) (hl0 : pt_r p l0 l0') (l3 l3' : Int32) (hl3 : l3 = l3') (m n : ml_M) (hq : pt_Q p v0 r0 m n) (bl0 : l0 ≤ ml_n m), pt_T pt_Wv (fX10_turns_56 l0 l3 m) (fX10_turns_56 l0' l3' n) := by
  intro l0 l0' hl0 l3 l3' hl3 m n hq bl0
  obtain ⟨rfl, dl0⟩ := hl0
  subst hl3
  unfold fX10_turns_56
  exact (pt_ck (pt_kc hq (pt_rf dl0)) fun hc1123 => (pt_ite (pt_e2 (fun (a b : Int32) => b < a) rfl (pt_I hq (pt_rf dl0) hc1123)) (fun _ => (pt_rtv rfl)) (fun _ => (pt_rtv rfl))))
theorem zX10_turns_5 {p : Nat → Nat} {v0 r0 : ml_M} : ∀ (fu : Nat) (l0 l0' : Nat) (hl0 : pt_r p l0 l0') (l1 l1' : Int32) (hl1 : l1 = l1') (l2 l2' : Int32) (hl2 : l2 = l2') (l3 l3' : Int32) (hl3 : l3 = l3') (l4 l4' : Int32) (hl4 : l4 = l4') (m n : ml_M) (hq : pt_Q p v0 r0 m n) (bl0 : l0 ≤ ml_n m), pt_T pt_Wv (fX10_turns_5 fu l0 l1 l2 l3 l4 m) (fX10_turns_5 fu l0' l1' l2' l3' l4' n) := by
  intro fu
  induction fu with
  | zero => intro l0 l0' hl0 l1 l1' hl1 l2 l2' hl2 l3 l3' hl3 l4 l4' hl4 m n hq bl0; exact pt_none
  | succ fu ih =>
  intro l0 l0' hl0 l1 l1' hl1 l2 l2' hl2 l3 l3' hl3 l4 l4' hl4 m n hq bl0
  obtain ⟨rfl, dl0⟩ := hl0
  subst hl1
  subst hl2
  subst hl3
  subst hl4
  have hk5 := ih
  unfold fX10_turns_5
  exact (pt_ite rfl (fun _ => (zX10_turns_56   _ _ (pt_rf dl0) _ _ rfl _ _ hq bl0)) (fun _ => (pt_ck (pt_nzI rfl) fun _ => (pt_ck (pt_nzI rfl) fun _ => (pt_leti rfl fun x1124 => (pt_ite rfl (fun _ => (pt_leti rfl fun x1125 => (pt_leti rfl fun x1126 => (hk5 _ _ (pt_rf dl0) _ _ rfl _ _ rfl _ _ rfl _ _ rfl _ _ hq bl0)))) (fun _ => (pt_rtv rfl))))))))
theorem zX10_turns {p : Nat → Nat} {v0 r0 : ml_M} : ∀ (l0 l0' : Nat) (hl0 : pt_r p l0 l0') (l1 l1' : Int32) (hl1 : l1 = l1') (l2 l2' : Int32) (hl2 : l2 = l2') (m n : ml_M) (hq : pt_Q p v0 r0 m n) (bl0 : l0 ≤ ml_n m), pt_T pt_Wv (fX10_turns l0 l1 l2 m) (fX10_turns l0' l1' l2' n) := by
  intro l0 l0' hl0 l1 l1' hl1 l2 l2' hl2 m n hq bl0
  obtain ⟨rfl, dl0⟩ := hl0
  subst hl1
  subst hl2
  unfold fX10_turns
  exact (zX10_turns_5  ml_fu _ _ (pt_rf dl0) _ _ rfl _ _ rfl _ _ rfl _ _ rfl _ _ hq bl0)
theorem zX10_opened_44 {p : Nat → Nat} {v0 r0 : ml_M} {k4 k4' : Nat → Nat → Int32 → Int32 → ml_M → Option Int32} (hk4 : ∀ (l0 l0' : Nat) (hl0 : pt_r p l0 l0') (l1 l1' : Nat) (hl1 : pt_r p l1 l1') (l2 l2' : Int32) (hl2 : l2 = l2') (l3 l3' : Int32) (hl3 : l3 = l3') (m n : ml_M) (hq : pt_Q p v0 r0 m n) (bl0 : l0 ≤ ml_n m) (bl1 : l1 ≤ ml_n m), pt_T pt_Wv (k4 l0 l1 l2 l3 m) (k4' l0' l1' l2' l3' n)) : ∀ (l0 l0' : Nat) (hl0 : pt_r p l0 l0') (l1 l1' : Nat) (hl1 : pt_r p l1 l1') (l2 l2' : Int32) (hl2 : l2 = l2') (l3 l3' : Int32) (hl3 : l3 = l3') (m n : ml_M) (hq : pt_Q p v0 r0 m n) (bl0 : l0 ≤ ml_n m) (bl1 : l1 ≤ ml_n m), pt_T pt_Wv (fX10_opened_44 k4 l0 l1 l2 l3 m) (fX10_opened_44 k4' l0' l1' l2' l3' n) := by
  intro l0 l0' hl0 l1 l1' hl1 l2 l2' hl2 l3 l3' hl3 m n hq bl0 bl1
  obtain ⟨rfl, dl0⟩ := hl0
  obtain ⟨rfl, dl1⟩ := hl1
  subst hl2
  subst hl3
  unfold fX10_opened_44
  exact (hk4 _ _ (pt_rf dl0) _ _ (pt_rf dl1) _ _ rfl _ _ rfl _ _ hq bl0 bl1)
theorem zX10_opened_4 {p : Nat → Nat} {v0 r0 : ml_M} : ∀ (fu : Nat) (l0 l0' : Nat) (hl0 : pt_r p l0 l0') (l1 l1' : Nat) (hl1 : pt_r p l1 l1') (l2 l2' : Int32) (hl2 : l2 = l2') (l3 l3' : Int32) (hl3 : l3 = l3') (m n : ml_M) (hq : pt_Q p v0 r0 m n) (bl0 : l0 ≤ ml_n m) (bl1 : l1 ≤ ml_n m), pt_T pt_Wv (fX10_opened_4 fu l0 l1 l2 l3 m) (fX10_opened_4 fu l0' l1' l2' l3' n) := by
  intro fu
  induction fu with
  | zero => intro l0 l0' hl0 l1 l1' hl1 l2 l2' hl2 l3 l3' hl3 m n hq bl0 bl1; exact pt_none
  | succ fu ih =>
  intro l0 l0' hl0 l1 l1' hl1 l2 l2' hl2 l3 l3' hl3 m n hq bl0 bl1
  obtain ⟨rfl, dl0⟩ := hl0
  obtain ⟨rfl, dl1⟩ := hl1
  subst hl2
  subst hl3
  have hk4 := ih
  unfold fX10_opened_4
  exact (pt_ck (pt_kc hq (pt_rf dl0)) fun hc1127 => (pt_letr (pt_R hq (pt_rf dl0) hc1127) (pt_Rb hq (pt_rf dl0) hc1127) fun a1128 d_a1128 b_a1128 => (pt_ck (pt_kc hq (pt_rf d_a1128)) fun hc1129 => (pt_ite (pt_e2 (fun (a b : Int32) => b ≤ a) rfl (pt_I hq (pt_rf d_a1128) hc1129)) (fun _ => (pt_rtv rfl)) (fun _ => (pt_ck (pt_kc hq (pt_rf dl1)) fun hc1130 => (pt_letr (pt_R hq (pt_rf dl0) hc1127) (pt_Rb hq (pt_rf dl0) hc1127) fun a1131 d_a1131 b_a1131 => (pt_ck (pt_kc hq (pt_rf d_a1131)) fun hc1132 => (pt_letr (pt_R hq (pt_rf d_a1131) hc1132) (pt_Rb hq (pt_rf d_a1131) hc1132) fun a1133 d_a1133 b_a1133 => (pt_ck (pt_in hq (pt_rf d_a1133) rfl) fun hi1134 => pt_letr (pt_Ra hq (pt_rf d_a1133) hi1134.1 rfl) (pt_Rb hq (pt_rf d_a1133) hi1134.1) fun a1135 d_a1135 b_a1135 => (pt_ck (pt_kc hq (pt_rf d_a1135)) fun hc1136 => (pt_b1 (zX10_turns _ _ (pt_rf dl0) _ _ (pt_I hq (pt_rf dl1) hc1130) _ _ (pt_I hq (pt_rf d_a1135) hc1136) _ _ hq bl0) fun r1137 => (pt_ite rfl (fun _ => (zX10_opened_44 hk4  _ _ (pt_rf dl0) _ _ (pt_rf dl1) _ _ rfl _ _ rfl _ _ hq bl0 bl1)) (fun _ => (pt_leti rfl fun x1138 => (zX10_opened_44 hk4  _ _ (pt_rf dl0) _ _ (pt_rf dl1) _ _ rfl _ _ rfl _ _ hq bl0 bl1))))))))))))))))
theorem zX10_opened {p : Nat → Nat} {v0 r0 : ml_M} : ∀ (l0 l0' : Nat) (hl0 : pt_r p l0 l0') (l1 l1' : Nat) (hl1 : pt_r p l1 l1') (m n : ml_M) (hq : pt_Q p v0 r0 m n) (bl0 : l0 ≤ ml_n m) (bl1 : l1 ≤ ml_n m), pt_T pt_Wv (fX10_opened l0 l1 m) (fX10_opened l0' l1' n) := by
  intro l0 l0' hl0 l1 l1' hl1 m n hq bl0 bl1
  obtain ⟨rfl, dl0⟩ := hl0
  obtain ⟨rfl, dl1⟩ := hl1
  unfold fX10_opened
  exact (zX10_opened_4  ml_fu _ _ (pt_rf dl0) _ _ (pt_rf dl1) _ _ rfl _ _ rfl _ _ hq bl0 bl1)
theorem zX10_opens {p : Nat → Nat} {v0 r0 : ml_M} : ∀ (l0 l0' : Nat) (hl0 : pt_r p l0 l0') (l1 l1' : Int32) (hl1 : l1 = l1') (m n : ml_M) (hq : pt_Q p v0 r0 m n) (bl0 : l0 ≤ ml_n m), pt_T (pt_WV p v0 r0) (fX10_opens l0 l1 m) (fX10_opens l0' l1' n) := by
  intro l0 l0' hl0 l1 l1' hl1 m n hq bl0
  obtain ⟨rfl, dl0⟩ := hl0
  subst hl1
  unfold fX10_opens
  exact (pt_ck (pt_kc hq (pt_rf dl0)) fun hc1139 => (pt_b1 (zX10_isThing _ _ (pt_rf dl0) _ _ rfl _ _ hq bl0) fun r1140 => (pt_ite rfl (fun _ => (pt_retV rfl hq)) (fun _ => (pt_letr (pt_R hq (pt_rf dl0) hc1139) (pt_Rb hq (pt_rf dl0) hc1139) fun a1141 d_a1141 b_a1141 => (pt_ck (pt_in hq (pt_rf d_a1141) rfl) fun hi1142 => pt_letr (pt_Ra hq (pt_rf d_a1141) hi1142.1 rfl) (pt_Rb hq (pt_rf d_a1141) hi1142.1) fun a1143 d_a1143 b_a1143 => (pt_ck (pt_kc hq (pt_rf d_a1143)) fun hc1144 => (pt_ite (pt_e2 (fun (a b : Int32) => a = b) (pt_I hq (pt_rf d_a1143) hc1144) rfl) (fun _ => (pt_letr (pt_R hq (pt_rf dl0) hc1139) (pt_Rb hq (pt_rf dl0) hc1139) fun a1150 d_a1150 b_a1150 => (pt_ck (pt_in hq (pt_rf d_a1150) rfl) fun hi1151 => pt_letr (pt_Ra hq (pt_rf d_a1150) hi1151.1 rfl) (pt_Rb hq (pt_rf d_a1150) hi1151.1) fun a1152 d_a1152 b_a1152 => (pt_b1 (zX10_opened _ _ (pt_rf dl0) _ _ (pt_rf d_a1152) _ _ hq bl0 b_a1152) fun r1153 => (pt_retV rfl hq))))) (fun _ => (pt_b2 hq (zX10_found _ _ (pt_rf dl0) _ _ rfl _ _ (pt_ref hq) bl0) fun r1145 m1146 n1147 hn1149 hq1148 => (pt_retV rfl hq1148)))))))))))

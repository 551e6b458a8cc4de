/-! THE LAW'S BOOK: told, read, taken. -/
theorem pw_trk {a b : Nat} {B : pl_A} {bs : List Nat} {r : ml_M} (h : pw_X a b B bs r) (ha : a ≠ 0) (hp : bs.length + 7 ≤ 120) {nt : Nat} {f : Nat → Nat → Nat} (hh : pw_h r 67 2 nt 16 f) {t : Nat} (ht : t < nt) (hnt : nt ≤ 8) (hf : f t 0 < 10000 ∧ f t 1 < 10) (np : Int32) (fu : Nat) :
    ∃ r1, fL_book_136 (fu + 1) a (nI nt) 67 np 68 (nI bs.length) (nI t) r = fL_book_136 fu a (nI nt) 67 np 68 (nI (bs ++ pw_kb (f t)).length) (nI (t + 1)) r1 ∧ pw_X a b B (bs ++ pw_kb (f t)) r1 ∧ ph_c 7 r r1 := by
  have hq : 65 ≤ 67 ∧ 67 ≤ 69 := by decide
  obtain ⟨r1, e1, x1, c1⟩ := pw_put h ha (by omega) (v := 107) (by decide)
  have h1 := hh.c c1 hq
  obtain ⟨r2, e2, x2, c2⟩ := pw_put x1 ha (by simp; omega) (v := 48 + f t 0 / 1000 % 10) (by omega)
  have h2 := h1.c c2 hq
  obtain ⟨r3, e3, x3, c3⟩ := pw_put x2 ha (by simp; omega) (v := 48 + f t 0 / 100 % 10) (by omega)
  have h3 := h2.c c3 hq
  obtain ⟨r4, e4, x4, c4⟩ := pw_put x3 ha (by simp; omega) (v := 48 + f t 0 / 10 % 10) (by omega)
  have h4 := h3.c c4 hq
  obtain ⟨r5, e5, x5, c5⟩ := pw_put x4 ha (by simp; omega) (v := 48 + f t 0 % 10) (by omega)
  obtain ⟨r6, e6, x6, c6⟩ := pw_put x5 ha (by simp; omega) (v := 94) (by decide)
  have h6 := (h4.c c5 hq).c c6 hq
  obtain ⟨r7, e7, x7, c7⟩ := pw_put x6 ha (by simp; omega) (v := 48 + f t 1) (by omega)
  have eb : bs ++ pw_kb (f t) = bs ++ [107] ++ [48 + f t 0 / 1000 % 10] ++ [48 + f t 0 / 100 % 10] ++ [48 + f t 0 / 10 % 10] ++ [48 + f t 0 % 10] ++ [94] ++ [48 + f t 1] := by
    unfold pw_kb
    simp only [List.append_assoc]
  rw [eb]
  refine ⟨r7, ?_, x7, ((((((c1.trans c2).trans c3).trans c4).trans c5).trans c6).trans c7).le (by decide)⟩
  obtain ⟨fq, hfq⟩ := pw_fu4
  have ln : ∀ (l : List Nat) (x : Nat), (l ++ [x]).length = l.length + 1 := fun l x => by simp
  have v1 := h1.2 t 0 ht (by decide)
  have v2 := h2.2 t 0 ht (by decide)
  have v3 := h3.2 t 0 ht (by decide)
  have v4 := h4.2 t 0 ht (by decide)
  have v6 := h6.2 t 1 ht (by decide)
  rw [Nat.add_zero] at v1 v2 v3 v4
  simp only [ln] at e2 e3 e4 e5 e6 e7 ⊢
  have f1 : f t 0 / 1 = f t 0 := Nat.div_one _
  rw [fL_book_136, hfq]
  simp (disch := omega) only [fL_book_157, fL_book_196, ↓pl_let, pl_b1, pl_b2, ↓reduceIte, pl_l1, pl_l2, pl_l3, pl_l4, pl_l5, pl_l6, pl_l7, pl_l8, pl_l9, pl_l10, pl_l11, pl_l12, pl_l13, pl_l14, pl_l15, pl_l16, pl_l17, pl_l18, pl_l19, pl_l20, pl_l21, pl_l22, pl_l23, pl_l24, pl_l25, pl_l26, pl_l27, pl_l28, pl_l29, pl_l30, pl_l31, pl_l32, pl_l33, pl_l34, pl_l35, pl_l36, pl_l37, pl_l38, pl_l39, pl_l40, pl_l41, pl_l42, pl_l43, pl_l44, pl_l45, pl_l46, pl_l47, pl_l48, pl_l49, pl_l50, pl_l51, pl_l52, pl_l53, pl_l54, pl_l55, pl_l56, pl_l57, pl_l58, pl_l59, pl_l60, pl_l61, pl_l62, pl_l63, pl_l64, pl_l99, pl_l100, pl_l119, pl_l120, pl_l255, pl_l256, pl_l999, pl_l1000, pl_l1023, pl_l1024, pl_l1111, pl_l5555, pl_l10240, pw_l107, pw_l94, pk_mul, nI_add, nI_leI, show ¬ nt ≤ t by omega, if_false, e1, pl_in, h1.1, h2.1, h3.1, h4.1, h6.1, and_self, if_true, nI_clamp, show 2 * t < 16 by omega, show 2 * t + 1 < 16 by omega, v1, v2, v3, v4, v6, pl_leZ, pl_eq0, Nat.reduceEqDiff, not_false_iff, pk_div, pl_rem3, Nat.reduceDiv, f1, e2, e3, e4, e5, e6, e7]
theorem pw_pil {a b : Nat} {B : pl_A} {bs : List Nat} {r : ml_M} (h : pw_X a b B bs r) (ha : a ≠ 0) (hp : bs.length + 4 ≤ 120) {np : Nat} {f : Nat → Nat → Nat} (hh : pw_h r 68 2 np 32 f) {t : Nat} (ht : t < np) (hnt : np ≤ 8) (hf : f t 0 < 10 ∧ f t 1 < 10) (nt : Int32) (fu : Nat) :
    ∃ r1, fL_book_231 (fu + 1) a nt (nI np) 68 (nI bs.length) (nI t) r = fL_book_231 fu a nt (nI np) 68 (nI (bs ++ pw_ub (f t)).length) (nI (t + 1)) r1 ∧ pw_X a b B (bs ++ pw_ub (f t)) r1 ∧ ph_c 4 r r1 := by
  have hq : 65 ≤ 68 ∧ 68 ≤ 69 := by decide
  obtain ⟨r1, e1, x1, c1⟩ := pw_put h ha (by omega) (v := 117) (by decide)
  have h1 := hh.c c1 hq
  obtain ⟨r2, e2, x2, c2⟩ := pw_put x1 ha (by simp; omega) (v := 48 + f t 0) (by omega)
  obtain ⟨r3, e3, x3, c3⟩ := pw_put x2 ha (by simp; omega) (v := 47) (by decide)
  have h3 := (h1.c c2 hq).c c3 hq
  obtain ⟨r4, e4, x4, c4⟩ := pw_put x3 ha (by simp; omega) (v := 48 + f t 1) (by omega)
  have eb : bs ++ pw_ub (f t) = bs ++ [117] ++ [48 + f t 0] ++ [47] ++ [48 + f t 1] := by
    unfold pw_ub
    simp only [List.append_assoc]
  rw [eb]
  refine ⟨r4, ?_, x4, (((c1.trans c2).trans c3).trans c4).le (by decide)⟩
  have ln : ∀ (l : List Nat) (x : Nat), (l ++ [x]).length = l.length + 1 := fun l x => by simp
  have v1 := h1.2 t 0 ht (by decide)
  have v3 := h3.2 t 1 ht (by decide)
  rw [Nat.add_zero] at v1
  simp only [ln] at e2 e3 e4 ⊢
  simp (disch := omega) only [fL_book_231, ↓pl_let, pl_b1, pl_b2, ↓reduceIte, pl_l1, pl_l2, pl_l3, pl_l4, pl_l5, pl_l6, pl_l7, pl_l8, pl_l9, pl_l10, pl_l11, pl_l12, pl_l13, pl_l14, pl_l15, pl_l16, pl_l17, pl_l18, pl_l19, pl_l20, pl_l21, pl_l22, pl_l23, pl_l24, pl_l25, pl_l26, pl_l27, pl_l28, pl_l29, pl_l30, pl_l31, pl_l32, pl_l33, pl_l34, pl_l35, pl_l36, pl_l37, pl_l38, pl_l39, pl_l40, pl_l41, pl_l42, pl_l43, pl_l44, pl_l45, pl_l46, pl_l47, pl_l48, pl_l49, pl_l50, pl_l51, pl_l52, pl_l53, pl_l54, pl_l55, pl_l56, pl_l57, pl_l58, pl_l59, pl_l60, pl_l61, pl_l62, pl_l63, pl_l64, pl_l99, pl_l100, pl_l119, pl_l120, pl_l255, pl_l256, pl_l999, pl_l1000, pl_l1023, pl_l1024, pl_l1111, pl_l5555, pl_l10240, pw_l117, pk_mul, nI_add, nI_leI, show ¬ np ≤ t by omega, if_false, e1, pl_in, h1.1, h3.1, and_self, if_true, nI_clamp, show 2 * t < 32 by omega, show 2 * t + 1 < 32 by omega, v1, v3, e2, e3, e4]
/-- what stands after a book: the house, nothing else -/
def pw_F (A : pl_A) (nl nt np : Nat) (lf kf uf : Nat → Nat → Nat) : Prop := pw_H A nl nt np lf kf uf ∧ (pl_N A 0 3 0 = 0 ∧ pl_N A 0 5 0 = 0 ∧ pl_N A 0 7 0 = 1) ∧ ∀ g i k, 4 ≤ g → g ≠ 9 → pl_N A g i k = 0
theorem pw_book {a b : Nat} {B : pl_A} {r : ml_M} (h : ph_2 a b pl_A0 B r) (ha : a ≠ 0) {nl nt np q : Nat} {lf kf uf : Nat → Nat → Nat} (hok : pw_ok nl nt np lf kf uf) (hq : 65 ≤ q ∧ q ≤ 69) (h1 : pw_h r q 5 nl 64 lf) (h2 : pw_h r 67 2 nt 16 kf) (h3 : pw_h r 68 2 np 32 uf) :
    ∃ A r1, fL_book a (nI nl) q (nI nt) 67 (nI np) 68 r = some (1, r1) ∧ ph_2 a b A B r1 ∧ pw_F A nl nt np lf kf uf ∧ ph_c 99 r r1 := by
  have hok' := hok
  obtain ⟨⟨o1, o2, o3⟩, ol, ok, ou⟩ := hok
  have hq67 : 65 ≤ 67 ∧ 67 ≤ 69 := by decide
  have hq68 : 65 ≤ 68 ∧ 68 ≤ 69 := by decide
  have hlA := pw_all_le (fun i => pw_lb (lf i)) (w := 12) (fun i => pw_lb_le _)
  have hlT := pw_all_le (fun i => pw_kb (kf i)) (w := 7) (fun i => by rw [pw_kb_len]; exact Nat.le_refl _)
  have hlP := pw_all_le (fun i => pw_ub (uf i)) (w := 4) (fun i => by rw [pw_ub_len]; exact Nat.le_refl _)
  -- a text of blanks
  have hD := pd_text pl_A0 (r := 3) (n := 120) (by decide) (by decide)
  obtain ⟨r0, t1, t2, t3⟩ := xo_text hD h ha
  have X0 : pw_X a b B [] r0 := by
    refine ⟨_, t2, fun g i k hg => ?_, ?_, fun j hj => ?_⟩
    · unfold pl_xA; rw [pl_N_sVr, pl_N_sN, if_neg (fun z => hg z.1)]
    · unfold pl_xA; rw [pl_N_sVr, pl_N_sN, if_pos ⟨rfl, rfl, rfl⟩]
    · unfold pl_xA; rw [pl_V_sVr, if_pos ⟨rfl, rfl⟩]; rfl
  -- the end
  have E4 : ∀ r', pw_X a b B (pw_bk nl nt np lf kf uf) r' → ∃ A r1, fL_book_290 a (nI nt) (nI (pw_bk nl nt np lf kf uf).length) r' = some (1, r1) ∧ ph_2 a b A B r1 ∧ pw_F A nl nt np lf kf uf ∧ ph_c 2 r' r1 := fun r' hX => by
    obtain ⟨A, x1, x2, x3, x4⟩ := hX
    have hb0 : pl_N (pl_b0 A) 0 0 0 = 0 ∧ pl_N (pl_b0 A) 0 1 0 = 0 ∧ pl_N (pl_b0 A) 0 2 0 = 0 := ⟨rfl, rfl, rfl⟩
    obtain ⟨B1, y1, y2⟩ := pw_rdbk (f := pl_V A 1 3) hok' hb0 x4
    have hF := pd_fault A (r := 3) (L := 120) (by decide) x3
    have hK := pd_book A (r := 3) (L := 120) (by decide) x3 (by rw [y1])
    rw [y1] at hF hK
    obtain ⟨ra, f1, f2, f3⟩ := xo_fault hF x1 ha
    obtain ⟨rb, g1, g2, g3⟩ := xo_book hK f2 ha
    have sm := pl_rdb_sm A (pl_V A 1 3) 120 120
    rw [y1] at sm
    have smN : ∀ i, 3 ≤ i → pl_N B1 0 i 0 = pl_N (pl_b0 A) 0 i 0 := sm.2.1
    have b0n : ∀ i, pl_N (pl_b0 A) 0 i 0 = if i ≤ 6 then 0 else pl_N A 0 i 0 := fun i => by
      have e : pl_N (pl_b0 A) 0 i 0 = if 0 = 0 ∧ 0 = 0 ∧ i ≤ 6 then 0 else pl_N A 0 i 0 := rfl
      rw [e]
      by_cases hi : i ≤ 6
      · rw [if_pos ⟨rfl, rfl, hi⟩, if_pos hi]
      · rw [if_neg (fun z => hi z.2.2), if_neg hi]
    have hlen : (pw_bk nl nt np lf kf uf).length ≤ 96 := by
      have := hlA nl
      have := hlT nt
      have := hlP np
      unfold pw_bk
      rw [List.length_append, List.length_append]
      omega
    refine ⟨B1, rb, ?_, g2, ⟨y2, ⟨?_, ?_, ?_⟩, fun g i k hg h9 => ?_⟩, f3.trans g3⟩
    · have f1' : fX10_fault a (3 : Int32) r' = some (-9, ra) := f1
      have g1' : fX10_book a (3 : Int32) ra = some (nI (pl_N B1 0 1 0), rb) := g1
      rw [y2.1.2.1] at g1'
      unfold fL_book_290
      rw [if_neg (by rw [pl_lt0 (by omega)]; exact id), if_pos (x1.k ha), f1', pl_b2, if_pos rfl, if_pos (f2.k ha), g1', pl_b2, if_pos rfl]
    · rw [smN 3 (by decide), b0n]; rfl
    · rw [smN 5 (by decide), b0n]; rfl
    · rw [smN 7 (by decide), b0n, if_neg (by decide), x2 0 7 0 (by decide), pl_A0N, if_pos ⟨rfl, rfl, rfl⟩]
    · have e8 : pl_N B1 g = pl_N A g := sm.1 g hg
      rw [e8, x2 g i k h9, pl_A0N, if_neg (by omega)]
  -- the piles
  have E3 : ∀ r', pw_X a b B (pw_all (fun i => pw_lb (lf i)) nl ++ pw_all (fun i => pw_kb (kf i)) nt) r' → pw_h r' 68 2 np 32 uf → ∃ A r1, fL_book_228 a (nI nt) (nI np) 68 (nI (pw_all (fun i => pw_lb (lf i)) nl ++ pw_all (fun i => pw_kb (kf i)) nt).length) r' = some (1, r1) ∧ ph_2 a b A B r1 ∧ pw_F A nl nt np lf kf uf ∧ ph_c 10 r' r1 := fun r' hX h3' => by
    obtain ⟨pre, hpre⟩ : ∃ pre, pre = pw_all (fun i => pw_lb (lf i)) nl ++ pw_all (fun i => pw_kb (kf i)) nt := ⟨_, rfl⟩
    have hpl : pre.length ≤ 88 := by
      have := hlA nl
      have := hlT nt
      rw [hpre, List.length_append]; omega
    rw [← hpre] at hX ⊢
    unfold fL_book_228
    have := pw_for (F := fun fu i (s : List Nat × ml_M) => fL_book_231 fu a (nI nt) (nI np) 68 (nI s.1.length) (nI i) s.2) (Inv := fun i s => s.1 = pre ++ pw_all (fun i => pw_ub (uf i)) i ∧ pw_X a b B s.1 s.2 ∧ ph_c (4 * i) r' s.2) (Post := fun R => ∃ A r1, R = some (1, r1) ∧ ph_2 a b A B r1 ∧ pw_F A nl nt np lf kf uf ∧ ph_c 10 r' r1) np (fun fu i s hi hv => ?_) (fun fu s hv => ?_) ml_fu (by rw [pl_fu]; omega) (pre, r') ⟨by show pre = pre ++ []; rw [List.append_nil], hX, ph_c.refl _⟩
    · exact this
    · obtain ⟨v1, v2, v3⟩ := hv
      have hs := hlP i
      obtain ⟨u1, u2, u3⟩ := ou i hi
      obtain ⟨r1, e1, x1, c1⟩ := pw_pil v2 ha (by rw [v1, List.length_append]; omega) (h3'.c v3 hq68) hi (by omega) ⟨by omega, by omega⟩ (nI nt) fu
      refine ⟨(s.1 ++ pw_ub (uf i), r1), e1, ?_, x1, (v3.trans c1).le (by omega)⟩
      show s.1 ++ pw_ub (uf i) = _
      rw [v1, pw_all1, List.append_assoc]
    · obtain ⟨v1, v2, v3⟩ := hv
      have hbk : s.1 = pw_bk nl nt np lf kf uf := by rw [v1, hpre]; rfl
      rw [hbk] at v2
      obtain ⟨A, r1, e1, e2, e3, e4⟩ := E4 s.2 v2
      refine ⟨A, r1, ?_, e2, e3, (v3.trans e4).le (by omega)⟩
      show fL_book_231 (fu + 1) a (nI nt) (nI np) 68 (nI s.1.length) (nI np) s.2 = _
      rw [fL_book_231, if_pos (nI_le (Nat.le_refl _) (by omega)), hbk, e1]
  -- the trunks
  have E2 : ∀ r', pw_X a b B (pw_all (fun i => pw_lb (lf i)) nl) r' → pw_h r' 67 2 nt 16 kf → pw_h r' 68 2 np 32 uf → ∃ A r1, fL_book_133 a (nI nt) 67 (nI np) 68 (nI (pw_all (fun i => pw_lb (lf i)) nl).length) r' = some (1, r1) ∧ ph_2 a b A B r1 ∧ pw_F A nl nt np lf kf uf ∧ ph_c 38 r' r1 := fun r' hX h2' h3' => by
    obtain ⟨pre, hpre⟩ : ∃ pre, pre = pw_all (fun i => pw_lb (lf i)) nl := ⟨_, rfl⟩
    have hpl : pre.length ≤ 60 := by
      have := hlA nl
      rw [hpre]; omega
    rw [← hpre] at hX ⊢
    unfold fL_book_133
    have := pw_for (F := fun fu i (s : List Nat × ml_M) => fL_book_136 fu a (nI nt) 67 (nI np) 68 (nI s.1.length) (nI i) s.2) (Inv := fun i s => s.1 = pre ++ pw_all (fun i => pw_kb (kf i)) i ∧ pw_X a b B s.1 s.2 ∧ ph_c (7 * i) r' s.2) (Post := fun R => ∃ A r1, R = some (1, r1) ∧ ph_2 a b A B r1 ∧ pw_F A nl nt np lf kf uf ∧ ph_c 38 r' r1) nt (fun fu i s hi hv => ?_) (fun fu s hv => ?_) ml_fu (by rw [pl_fu]; omega) (pre, r') ⟨by show pre = pre ++ []; rw [List.append_nil], hX, ph_c.refl _⟩
    · exact this
    · obtain ⟨v1, v2, v3⟩ := hv
      have hs := hlT i
      obtain ⟨u1, u2, u3⟩ := ok i hi
      obtain ⟨r1, e1, x1, c1⟩ := pw_trk v2 ha (by rw [v1, List.length_append]; omega) (h2'.c v3 hq67) hi (by omega) ⟨u1, u2⟩ (nI np) fu
      refine ⟨(s.1 ++ pw_kb (kf i), r1), e1, ?_, x1, (v3.trans c1).le (by omega)⟩
      show s.1 ++ pw_kb (kf i) = _
      rw [v1, pw_all1, List.append_assoc]
    · obtain ⟨v1, v2, v3⟩ := hv
      have hbk : s.1 = pw_all (fun i => pw_lb (lf i)) nl ++ pw_all (fun i => pw_kb (kf i)) nt := by rw [v1, hpre]
      rw [hbk] at v2
      obtain ⟨A, r1, e1, e2, e3, e4⟩ := E3 s.2 v2 (h3'.c v3 hq68)
      refine ⟨A, r1, ?_, e2, e3, (v3.trans e4).le (by omega)⟩
      show fL_book_136 (fu + 1) a (nI nt) 67 (nI np) 68 (nI s.1.length) (nI nt) s.2 = _
      rw [fL_book_136, if_pos (nI_le (Nat.le_refl _) (by omega)), hbk, e1]
  -- the lodgers
  have h1' := h1.c t3 hq
  have h2' := h2.c t3 hq67
  have h3' := h3.c t3 hq68
  have := pw_for (F := fun fu i (s : List Nat × ml_M) => fL_book_20 fu a (nI nl) q (nI nt) 67 (nI np) 68 (nI s.1.length) (nI i) s.2) (Inv := fun i s => s.1 = pw_all (fun i => pw_lb (lf i)) i ∧ pw_X a b B s.1 s.2 ∧ ph_c (12 * i) r0 s.2) (Post := fun R => ∃ A r1, R = some (1, r1) ∧ ph_2 a b A B r1 ∧ pw_F A nl nt np lf kf uf ∧ ph_c 98 r0 r1) nl (fun fu i s hi hv => ?_) (fun fu s hv => ?_) ml_fu (by rw [pl_fu]; omega) ([], r0) ⟨rfl, X0, ph_c.refl _⟩
  · obtain ⟨A, r1, e1, e2, e3, e4⟩ := this
    refine ⟨A, r1, ?_, e2, e3, (t3.trans e4).le (by decide)⟩
    have t1' : fX10_text a (3 : Int32) (120 : Int32) r = some (nI 120, r0) := t1
    have e1' : fL_book_20 ml_fu a (nI nl) q (nI nt) 67 (nI np) 68 (0 : Int32) (0 : Int32) r0 = some (1, r1) := e1
    unfold fL_book
    rw [if_pos (h.k ha), t1', pl_b2, if_pos (show nI 120 = (120 : Int32) from rfl), e1']
  · obtain ⟨v1, v2, v3⟩ := hv
    have hs := hlA i
    obtain ⟨u1, u2, u3⟩ := ol i hi
    obtain ⟨r1, e1, x1, c1⟩ := pw_lod v2 ha (by rw [v1]; omega) hq (h1'.c v3 hq) hi (by omega) ⟨by omega, u2, fun j h2 h5 => (u3 j h2 h5).2⟩ nt (nI np) fu
    refine ⟨(s.1 ++ pw_lb (lf i), r1), e1, ?_, x1, (v3.trans c1).le (by omega)⟩
    show s.1 ++ pw_lb (lf i) = _
    rw [v1, pw_all1]
  · obtain ⟨v1, v2, v3⟩ := hv
    rw [v1] at v2
    obtain ⟨A, r1, e1, e2, e3, e4⟩ := E2 s.2 v2 (h2'.c v3 hq67) (h3'.c v3 hq68)
    refine ⟨A, r1, ?_, e2, e3, (v3.trans e4).le (by omega)⟩
    show fL_book_20 (fu + 1) a (nI nl) q (nI nt) 67 (nI np) 68 (nI s.1.length) (nI nl) s.2 = _
    rw [fL_book_20, if_pos (nI_le (Nat.le_refl _) (by omega)), v1, e1]

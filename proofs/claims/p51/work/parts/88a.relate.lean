/-! TWO MEMORIES THAT HOLD THE SAME: the cell x of the one (v) is the cell p x of the other (r). -/
def pt_d (p : Nat → Nat) (x : Nat) : Prop := x = 0 ∨ p x ≠ 0
def pt_P (p : Nat → Nat) : Prop := p 0 = 0 ∧ ∀ x y, p x = p y → p x ≠ 0 → x = y
def pt_r (p : Nat → Nat) (x y : Nat) : Prop := y = p x ∧ pt_d p x
/-- the cells x, p x hold the same -/
def pt_e (p : Nat → Nat) (v r : ml_M) (x : Nat) : Prop := ml_K r (p x) = ml_K v x ∧ ((ml_K v x).1 ≠ 99 → ml_I r (p x) = ml_I v x ∧ ml_J r (p x) = ml_J v x ∧ ∀ k, ml_R r (p x) k = p (ml_R v x k) ∧ pt_d p (ml_R v x k) ∧ ml_R v x k ≤ ml_n v)
/-- from v0, r0 on as many cells were made in both -/
def pt_m (v0 r0 v r : ml_M) : Prop := ml_n r + ml_n v0 = ml_n v + ml_n r0 ∧ ml_s r + ml_s v0 = ml_s v + ml_s r0 ∧ ml_n v0 ≤ ml_n v ∧ ml_s v0 ≤ ml_s v
def pt_f (p : Nat → Nat) (v r : ml_M) : Prop := ∀ i, 0 < i → p (ml_n v + i) = ml_n r + i ∧ ml_K v (ml_n v + i) = (99, 0) ∧ ml_K r (ml_n r + i) = (99, 0)
/-- what is none of v's in r is as it was -/
def pt_o (p : Nat → Nat) (r0 r : ml_M) : Prop := ∀ a, (∀ x, p x ≠ a) → ml_K r a = ml_K r0 a ∧ ml_I r a = ml_I r0 a ∧ ml_R r a = ml_R r0 a ∧ ml_J r a = ml_J r0 a
def pt_Q (p : Nat → Nat) (v0 r0 v r : ml_M) : Prop := pt_P p ∧ pt_m v0 r0 v r ∧ pt_f p v r ∧ (∀ x, pt_d p x → pt_e p v r x) ∧ pt_o p r0 r
def pt_T {α β : Type} (W : α → β → Prop) (X : Option α) (Y : Option β) : Prop := ∀ a, X = some a → ∃ b, Y = some b ∧ W a b
def pt_WV {α : Type} (p : Nat → Nat) (v0 r0 : ml_M) (a b : α × ml_M) : Prop := a.1 = b.1 ∧ pt_Q p v0 r0 a.2 b.2
def pt_WR (p : Nat → Nat) (v0 r0 : ml_M) (a b : Nat × ml_M) : Prop := (pt_r p a.1 b.1 ∧ a.1 ≤ ml_n a.2) ∧ pt_Q p v0 r0 a.2 b.2
def pt_WM (p : Nat → Nat) (v0 r0 : ml_M) (a b : ml_M) : Prop := pt_Q p v0 r0 a b
def pt_Wv {α : Type} (a b : α) : Prop := a = b
def pt_Wr (p : Nat → Nat) (v : ml_M) (a b : Nat) : Prop := pt_r p a b ∧ a ≤ ml_n v
theorem pt_rf {p : Nat → Nat} {x : Nat} (h : pt_d p x) : pt_r p x (p x) := ⟨rfl, h⟩
theorem pt_r0 {p : Nat → Nat} {v0 r0 v r : ml_M} (hq : pt_Q p v0 r0 v r) : pt_r p 0 0 := ⟨hq.1.1.symm, Or.inl rfl⟩
/-- unlike cells of v are unlike in r -/
theorem pt_inj {p : Nat → Nat} (hp : pt_P p) {x y : Nat} (hx : pt_d p x) (hy : pt_d p y) (h : p x = p y) : x = y := by
  rcases hx with hx | hx
  · rcases hy with hy | hy
    · omega
    · rw [hx, hp.1] at h; exact absurd h.symm hy
  · exact hp.2 x y h hx
theorem pt_e1 {α γ : Sort _} (f : α → γ) {a a' : α} (h : a = a') : f a = f a' := congrArg f h
theorem pt_e2 {α β γ : Sort _} (f : α → β → γ) {a a' : α} {b b' : β} (h : a = a') (h2 : b = b') : f a b = f a' b' := by subst h; subst h2; rfl
section reads
variable {p : Nat → Nat} {v0 r0 v r : ml_M} {x y kd k : Nat}
theorem pt_KK (hq : pt_Q p v0 r0 v r) (h : pt_r p x y) : ml_K v x = ml_K r y := by obtain ⟨rfl, h⟩ := h; exact (hq.2.2.2.1 x h).1.symm
theorem pt_kc (hq : pt_Q p v0 r0 v r) (h : pt_r p x y) (hc : (ml_K v x).1 = kd) : (ml_K r y).1 = kd := by rw [← pt_KK hq h]; exact hc
theorem pt_I (hq : pt_Q p v0 r0 v r) (h : pt_r p x y) (hc : (ml_K v x).1 = kd) (hk : kd ≠ 99 := by decide) : ml_I v x k = ml_I r y k := by obtain ⟨rfl, h⟩ := h; exact (congrFun ((hq.2.2.2.1 x h).2 (by rw [hc]; exact hk)).1 k).symm
theorem pt_J (hq : pt_Q p v0 r0 v r) (h : pt_r p x y) (hc : (ml_K v x).1 = kd) (hk : kd ≠ 99 := by decide) : ml_J v x k = ml_J r y k := by obtain ⟨rfl, h⟩ := h; exact (congrFun ((hq.2.2.2.1 x h).2 (by rw [hc]; exact hk)).2.1 k).symm
theorem pt_R (hq : pt_Q p v0 r0 v r) (h : pt_r p x y) (hc : (ml_K v x).1 = kd) (hk : kd ≠ 99 := by decide) : pt_r p (ml_R v x k) (ml_R r y k) := by obtain ⟨rfl, h⟩ := h; exact ⟨(((hq.2.2.2.1 x h).2 (by rw [hc]; exact hk)).2.2 k).1, (((hq.2.2.2.1 x h).2 (by rw [hc]; exact hk)).2.2 k).2.1⟩
theorem pt_Rb (hq : pt_Q p v0 r0 v r) (h : pt_r p x y) (hc : (ml_K v x).1 = kd) (hk : kd ≠ 99 := by decide) : ml_R v x k ≤ ml_n v := by obtain ⟨rfl, h⟩ := h; exact (((hq.2.2.2.1 x h).2 (by rw [hc]; exact hk)).2.2 k).2.2
theorem pt_in {i i' : Int32} (hq : pt_Q p v0 r0 v r) (h : pt_r p x y) (e : i = i') (hc : ml_in v x kd i) : ml_in r y kd i' := by subst e; unfold ml_in at *; rw [← pt_KK hq h]; exact hc
theorem pt_Ia {i i' : Int32} (hq : pt_Q p v0 r0 v r) (h : pt_r p x y) (hc : (ml_K v x).1 = kd) (e : i = i') (hk : kd ≠ 99 := by decide) : ml_I v x i.toNatClampNeg = ml_I r y i'.toNatClampNeg := by subst e; exact pt_I hq h hc hk
theorem pt_Ra {i i' : Int32} (hq : pt_Q p v0 r0 v r) (h : pt_r p x y) (hc : (ml_K v x).1 = kd) (e : i = i') (hk : kd ≠ 99 := by decide) : pt_r p (ml_R v x i.toNatClampNeg) (ml_R r y i'.toNatClampNeg) := by subst e; exact pt_R hq h hc hk
theorem pt_len (hq : pt_Q p v0 r0 v r) (h : pt_r p x y) : Int32.ofNat (ml_K v x).2 = Int32.ofNat (ml_K r y).2 := by rw [pt_KK hq h]
theorem pt_nul (hq : pt_P p) (h : pt_r p x y) : (x = 0) = (y = 0) := by
  obtain ⟨rfl, h⟩ := h
  refine propext ⟨fun e => by rw [e]; exact hq.1, fun e => ?_⟩
  rcases h with h | h
  · exact h
  · exact absurd e h
theorem pt_nzr (h : pt_r p x y) (hx : x ≠ 0) : y ≠ 0 := by
  obtain ⟨rfl, h⟩ := h
  rcases h with h | h
  · exact absurd h hx
  · exact h
theorem pt_cpo {x' y' : Nat} {a a' b b' c c' : Int32} (hq : pt_Q p v0 r0 v r) (h : pt_r p x y) (h' : pt_r p x' y') (e1 : a = a') (e2 : b = b') (e3 : c = c') (hc : ml_cpo v x x' a b c) : ml_cpo r y y' a' b' c' := by
  subst e1; subst e2; subst e3
  unfold ml_cpo at *
  rw [← pt_KK hq h, ← pt_KK hq h']
  exact hc
end reads
theorem pt_lenc {i i' : Int32} (e : i = i') (h : ml_len i) : ml_len i' := by subst e; exact h
theorem pt_nzI {i i' : Int32} (e : i = i') (h : ¬ i = 0) : ¬ i' = 0 := by subst e; exact h
theorem pt_nzJ {i i' : Int64} (e : i = i') (h : ¬ i = 0) : ¬ i' = 0 := by subst e; exact h
theorem pt_z01 {i i' : Int32} (e : i = i') (h : i = 0 ∨ i = 1) : i' = 0 ∨ i' = 1 := by subst e; exact h
section steps
variable {α β γ δ : Type} {W : α → β → Prop} {p : Nat → Nat} {v0 r0 v r : ml_M}
theorem pt_none {Y : Option β} : pt_T W (none : Option α) Y := fun _ h => by cases h
theorem pt_ck {c c' : Prop} {D : Decidable c} {D' : Decidable c'} {X : Option α} {Y : Option β} (h : c → c') (k : c → pt_T W X Y) : pt_T W (@ite _ c D X none) (@ite _ c' D' Y none) := by
  by_cases hc : c
  · rw [if_pos hc, if_pos (h hc)]; exact k hc
  · rw [if_neg hc]; exact pt_none
theorem pt_ite {c c' : Prop} {D : Decidable c} {D' : Decidable c'} {X X' : Option α} {Y Y' : Option β} (h : c = c') (k : c → pt_T W X Y) (k' : ¬ c → pt_T W X' Y') : pt_T W (@ite _ c D X X') (@ite _ c' D' Y Y') := by
  subst h
  by_cases hc : c
  · rw [if_pos hc, if_pos hc]; exact k hc
  · rw [if_neg hc, if_neg hc]; exact k' hc
theorem pt_leti {e e' : γ} {f : γ → Option α} {g : γ → Option β} (h : e = e') (k : ∀ z, pt_T W (f z) (g z)) : pt_T W (ml_let e f) (ml_let e' g) := by subst h; exact k e
theorem pt_letr {e e' N : Nat} {f : Nat → Option α} {g : Nat → Option β} (h : pt_r p e e') (hb : e ≤ N) (k : ∀ z, pt_d p z → z ≤ N → pt_T W (f z) (g (p z))) : pt_T W (ml_let e f) (ml_let e' g) := by obtain ⟨rfl, h⟩ := h; exact k e h hb
theorem pt_letk {e e' : ml_M} {f : ml_M → Option α} {g : ml_M → Option β} (hK : ml_K e = ml_K v) (hn : ml_n v ≤ ml_n e) (h : pt_Q p v0 r0 e e') (k : ∀ m n, ml_K m = ml_K v → ml_n v ≤ ml_n m → pt_Q p v0 r0 m n → pt_T W (f m) (g n)) : pt_T W (ml_let e f) (ml_let e' g) := k e e' hK hn h
theorem pt_ref (hq : pt_Q p v0 r0 v r) : pt_Q p v r v r := ⟨hq.1, ⟨Nat.add_comm _ _, Nat.add_comm _ _, Nat.le_refl _, Nat.le_refl _⟩, hq.2.2.1, hq.2.2.2.1, fun _ _ => ⟨rfl, rfl, rfl, rfl⟩⟩
theorem pt_trans {v1 r1 : ml_M} (hq : pt_Q p v0 r0 v r) (h : pt_Q p v r v1 r1) : pt_Q p v0 r0 v1 r1 := by
  obtain ⟨-, ⟨a1, a2, a3, a4⟩, -, -, a5⟩ := hq
  obtain ⟨b1, ⟨b2, b3, b4, b5⟩, b6, b7, b8⟩ := h
  refine ⟨b1, ⟨by omega, by omega, by omega, by omega⟩, b6, b7, fun a ha => ?_⟩
  obtain ⟨c1, c2, c3, c4⟩ := a5 a ha
  obtain ⟨d1, d2, d3, d4⟩ := b8 a ha
  exact ⟨d1.trans c1, d2.trans c2, d3.trans c3, d4.trans c4⟩
theorem pt_b1 {X Y : Option γ} {f : γ → Option α} {g : γ → Option β} (h : pt_T pt_Wv X Y) (k : ∀ z, pt_T W (f z) (g z)) : pt_T W (ml_b1 X f) (ml_b1 Y g) := by
  cases X with
  | none => exact pt_none
  | some a =>
    obtain ⟨b, hb, e⟩ := h a rfl
    have e : a = b := e
    subst e; subst hb
    exact k a
theorem pt_b1r {X Y : Option Nat} {f : Nat → Option α} {g : Nat → Option β} (h : pt_T (pt_Wr p v) X Y) (k : ∀ z, pt_d p z → z ≤ ml_n v → pt_T W (f z) (g (p z))) : pt_T W (ml_b1 X f) (ml_b1 Y g) := by
  cases X with
  | none => exact pt_none
  | some a =>
    obtain ⟨b, hb, ⟨e, e1⟩, e2⟩ := h a rfl
    have e : b = p a := e
    subst e; subst hb
    exact k a e1 e2
theorem pt_b1m {X Y : Option ml_M} {f : ml_M → Option α} {g : ml_M → Option β} (hq : pt_Q p v0 r0 v r) (h : pt_T (pt_WM p v r) X Y) (k : ∀ m n, ml_n v ≤ ml_n m → pt_Q p v0 r0 m n → pt_T W (f m) (g n)) : pt_T W (ml_b1 X f) (ml_b1 Y g) := by
  cases X with
  | none => exact pt_none
  | some a =>
    obtain ⟨b, hb, e⟩ := h a rfl
    subst hb
    exact k a b e.2.1.2.2.1 (pt_trans hq e)
theorem pt_b2 {X Y : Option (γ × ml_M)} {f : γ → ml_M → Option α} {g : γ → ml_M → Option β} (hq : pt_Q p v0 r0 v r) (h : pt_T (pt_WV p v r) X Y) (k : ∀ z m n, ml_n v ≤ ml_n m → pt_Q p v0 r0 m n → pt_T W (f z m) (g z n)) : pt_T W (ml_b2 X f) (ml_b2 Y g) := by
  cases X with
  | none => exact pt_none
  | some a =>
    obtain ⟨a, m⟩ := a
    obtain ⟨⟨b, n⟩, hb, e, e2⟩ := h (a, m) rfl
    have e : a = b := e
    subst e; subst hb
    exact k a m n e2.2.1.2.2.1 (pt_trans hq e2)
theorem pt_b2r {X Y : Option (Nat × ml_M)} {f : Nat → ml_M → Option α} {g : Nat → ml_M → Option β} (hq : pt_Q p v0 r0 v r) (h : pt_T (pt_WR p v r) X Y) (k : ∀ z m n, pt_d p z → z ≤ ml_n m → ml_n v ≤ ml_n m → pt_Q p v0 r0 m n → pt_T W (f z m) (g (p z) n)) : pt_T W (ml_b2 X f) (ml_b2 Y g) := by
  cases X with
  | none => exact pt_none
  | some a =>
    obtain ⟨a, m⟩ := a
    obtain ⟨⟨b, n⟩, hb, ⟨⟨e, e1⟩, e3⟩, e2⟩ := h (a, m) rfl
    have e : b = p a := e
    subst e; subst hb
    exact k a m n e1 e3 e2.2.1.2.2.1 (pt_trans hq e2)
theorem pt_rtv {a b : γ} (e : a = b) : pt_T pt_Wv (some a) (some b) := fun c h => by cases h; exact ⟨b, rfl, e⟩
theorem pt_rtr {a b : Nat} (e : pt_r p a b) (hb : a ≤ ml_n v) : pt_T (pt_Wr p v) (some a) (some b) := fun c h => by cases h; exact ⟨b, rfl, e, hb⟩
theorem pt_retV {a b : γ} (e : a = b) (hq : pt_Q p v0 r0 v r) : pt_T (pt_WV p v0 r0) (some (a, v)) (some (b, r)) := fun c h => by cases h; exact ⟨(b, r), rfl, e, hq⟩
theorem pt_retR {a b : Nat} (e : pt_r p a b) (hb : a ≤ ml_n v) (hq : pt_Q p v0 r0 v r) : pt_T (pt_WR p v0 r0) (some (a, v)) (some (b, r)) := fun c h => by cases h; exact ⟨(b, r), rfl, ⟨e, hb⟩, hq⟩
theorem pt_retM (hq : pt_Q p v0 r0 v r) : pt_T (pt_WM p v0 r0) (some v) (some r) := fun c h => by cases h; exact ⟨r, rfl, hq⟩
end steps
section writes
variable {p : Nat → Nat} {v0 r0 v r : ml_M} {x y k : Nat}
theorem pt_sI {a b : Int32} (hq : pt_Q p v0 r0 v r) (h : pt_r p x y) (e : a = b) : pt_Q p v0 r0 (ml_sI v x k a) (ml_sI r y k b) := by
  subst e
  obtain ⟨rfl, h⟩ := h
  obtain ⟨q1, q2, q3, q4, q5⟩ := hq
  refine ⟨q1, q2, q3, fun z hz => ⟨(q4 z hz).1, fun hk => ?_⟩, fun c hc => ?_⟩
  · obtain ⟨e1, e2, e3⟩ := (q4 z hz).2 hk
    refine ⟨?_, e2, e3⟩
    funext j
    show (if p z = p x ∧ j = k then a else ml_I r (p z) j) = if z = x ∧ j = k then a else ml_I v z j
    by_cases hzx : z = x
    · subst hzx; rw [e1]; simp
    · rw [if_neg (fun w => hzx (pt_inj q1 hz h w.1)), if_neg (fun w => hzx w.1), e1]
  · obtain ⟨c1, c2, c3, c4⟩ := q5 c hc
    refine ⟨c1, ?_, c3, c4⟩
    funext j
    show (if c = p x ∧ j = k then a else ml_I r c j) = _
    rw [if_neg (fun w => hc x w.1.symm), c2]
theorem pt_sJ {a b : Int64} (hq : pt_Q p v0 r0 v r) (h : pt_r p x y) (e : a = b) : pt_Q p v0 r0 (ml_sJ v x k a) (ml_sJ r y k b) := by
  subst e
  obtain ⟨rfl, h⟩ := h
  obtain ⟨q1, q2, q3, q4, q5⟩ := hq
  refine ⟨q1, q2, q3, fun z hz => ⟨(q4 z hz).1, fun hk => ?_⟩, fun c hc => ?_⟩
  · obtain ⟨e1, e2, e3⟩ := (q4 z hz).2 hk
    refine ⟨e1, ?_, e3⟩
    funext j
    show (if p z = p x ∧ j = k then a else ml_J r (p z) j) = if z = x ∧ j = k then a else ml_J v z j
    by_cases hzx : z = x
    · subst hzx; rw [e2]; simp
    · rw [if_neg (fun w => hzx (pt_inj q1 hz h w.1)), if_neg (fun w => hzx w.1), e2]
  · obtain ⟨c1, c2, c3, c4⟩ := q5 c hc
    refine ⟨c1, c2, c3, ?_⟩
    funext j
    show (if c = p x ∧ j = k then a else ml_J r c j) = _
    rw [if_neg (fun w => hc x w.1.symm), c4]
theorem pt_sR {a b : Nat} (hq : pt_Q p v0 r0 v r) (h : pt_r p x y) (e : pt_r p a b) (hb : a ≤ ml_n v) : pt_Q p v0 r0 (ml_sR v x k a) (ml_sR r y k b) := by
  obtain ⟨rfl, h⟩ := h
  obtain ⟨rfl, ha⟩ := e
  obtain ⟨q1, q2, q3, q4, q5⟩ := hq
  refine ⟨q1, q2, q3, fun z hz => ⟨(q4 z hz).1, fun hk => ?_⟩, fun c hc => ?_⟩
  · obtain ⟨e1, e2, e3⟩ := (q4 z hz).2 hk
    refine ⟨e1, e2, fun j => ?_⟩
    show (if p z = p x ∧ j = k then p a else ml_R r (p z) j) = p (if z = x ∧ j = k then a else ml_R v z j) ∧ pt_d p (if z = x ∧ j = k then a else ml_R v z j) ∧ (if z = x ∧ j = k then a else ml_R v z j) ≤ ml_n v
    by_cases hzx : z = x ∧ j = k
    · rw [if_pos hzx, if_pos ⟨by rw [hzx.1], hzx.2⟩]; exact ⟨rfl, ha, hb⟩
    · rw [if_neg hzx, if_neg (fun w => hzx ⟨pt_inj q1 hz h w.1, w.2⟩)]; exact e3 j
  · obtain ⟨c1, c2, c3, c4⟩ := q5 c hc
    refine ⟨c1, c2, ?_, c4⟩
    funext j
    show (if c = p x ∧ j = k then p a else ml_R r c j) = _
    rw [if_neg (fun w => hc x w.1.symm), c3]
theorem pt_sIa {a b i i' : Int32} (hq : pt_Q p v0 r0 v r) (h : pt_r p x y) (e : i = i') (e2 : a = b) : pt_Q p v0 r0 (ml_sI v x i.toNatClampNeg a) (ml_sI r y i'.toNatClampNeg b) := by subst e; exact pt_sI hq h e2
theorem pt_sRa {a b : Nat} {i i' : Int32} (hq : pt_Q p v0 r0 v r) (h : pt_r p x y) (e : i = i') (e2 : pt_r p a b) (hb : a ≤ ml_n v) : pt_Q p v0 r0 (ml_sR v x i.toNatClampNeg a) (ml_sR r y i'.toNatClampNeg b) := by subst e; exact pt_sR hq h e2 hb
theorem pt_alQ (hq : pt_Q p v0 r0 v r) (kd len sz : Nat) : pt_Q p v0 r0 (ml_al v kd len sz) (ml_al r kd len sz) := by
  obtain ⟨q1, q2, q3, q4, q5⟩ := hq
  have qn := q3 1 (by decide)
  have hd : pt_d p (ml_n v + 1) := Or.inr (by rw [qn.1]; omega)
  refine ⟨q1, ⟨?_, ?_, ?_, ?_⟩, fun i hi => ?_, fun z hz => ?_, fun c hc => ?_⟩
  · show ml_n r + 1 + ml_n v0 = ml_n v + 1 + ml_n r0
    have := q2.1; omega
  · show ml_s r + sz + ml_s v0 = ml_s v + sz + ml_s r0
    have := q2.2.1; omega
  · show ml_n v0 ≤ ml_n v + 1
    have := q2.2.2.1; omega
  · show ml_s v0 ≤ ml_s v + sz
    have := q2.2.2.2; omega
  · have h := q3 (i + 1) (by omega)
    show p (ml_n v + 1 + i) = ml_n r + 1 + i ∧ (if ml_n v + 1 + i = ml_n v + 1 then (kd, len) else ml_K v (ml_n v + 1 + i)) = (99, 0) ∧ (if ml_n r + 1 + i = ml_n r + 1 then (kd, len) else ml_K r (ml_n r + 1 + i)) = (99, 0)
    rw [if_neg (by omega), if_neg (by omega), show ml_n v + 1 + i = ml_n v + (i + 1) by omega, show ml_n r + 1 + i = ml_n r + (i + 1) by omega]
    exact h
  · have hz2 : p z = ml_n r + 1 ↔ z = ml_n v + 1 := by
      constructor
      · intro h; exact pt_inj q1 hz hd (h.trans qn.1.symm)
      · rintro rfl; exact qn.1
    show (if p z = ml_n r + 1 then (kd, len) else ml_K r (p z)) = (if z = ml_n v + 1 then (kd, len) else ml_K v z) ∧ ((if z = ml_n v + 1 then (kd, len) else ml_K v z).1 ≠ 99 → (fun j => if p z = ml_n r + 1 then 0 else ml_I r (p z) j) = (fun j => if z = ml_n v + 1 then 0 else ml_I v z j) ∧ (fun j => if p z = ml_n r + 1 then 0 else ml_J r (p z) j) = (fun j => if z = ml_n v + 1 then 0 else ml_J v z j) ∧ ∀ k, (if p z = ml_n r + 1 then 0 else ml_R r (p z) k) = p (if z = ml_n v + 1 then 0 else ml_R v z k) ∧ pt_d p (if z = ml_n v + 1 then 0 else ml_R v z k) ∧ (if z = ml_n v + 1 then 0 else ml_R v z k) ≤ ml_n v + 1)
    by_cases h : z = ml_n v + 1
    · simp only [if_pos h, if_pos (hz2.mpr h)]
      exact ⟨trivial, fun _ => ⟨trivial, trivial, fun _ => ⟨q1.1.symm, Or.inl rfl, Nat.zero_le _⟩⟩⟩
    · simp only [if_neg h, if_neg (fun w => h (hz2.mp w))]
      refine ⟨(q4 z hz).1, fun hk => ?_⟩
      obtain ⟨e1, e2, e3⟩ := (q4 z hz).2 hk
      exact ⟨e1, e2, fun j => ⟨(e3 j).1, (e3 j).2.1, Nat.le_succ_of_le (e3 j).2.2⟩⟩
  · have hc1 : c ≠ ml_n r + 1 := fun h => hc (ml_n v + 1) (by rw [qn.1, h])
    obtain ⟨c1, c2, c3, c4⟩ := q5 c hc
    show (if c = ml_n r + 1 then (kd, len) else ml_K r c) = _ ∧ (fun j => if c = ml_n r + 1 then 0 else ml_I r c j) = _ ∧ (fun j => if c = ml_n r + 1 then 0 else ml_R r c j) = _ ∧ (fun j => if c = ml_n r + 1 then 0 else ml_J r c j) = _
    simp only [if_neg hc1]
    exact ⟨c1, c2, c3, c4⟩
theorem pt_newr (hq : pt_Q p v0 r0 v r) : pt_r p (ml_n v + 1) (ml_n r + 1) := by
  have qn := hq.2.2.1 1 (by decide)
  exact ⟨qn.1.symm, Or.inr (by rw [qn.1]; omega)⟩
theorem pt_al {α β : Type} {W : α → β → Prop} {kd len len' sz sz' : Nat} {f : Nat → ml_M → Option α} {g : Nat → ml_M → Option β} (hq : pt_Q p v0 r0 v r) (e1 : len = len') (e2 : sz = sz') (k : ∀ a m n, pt_d p a → a ≤ ml_n m → ml_n v ≤ ml_n m → (ml_K m a).1 = kd → pt_Q p v0 r0 m n → pt_T W (f a m) (g (p a) n)) : pt_T W (ml_let (ml_n v + 1) fun a => ml_let (ml_al v kd len sz) (f a)) (ml_let (ml_n r + 1) fun a => ml_let (ml_al r kd len' sz') (g a)) := by
  subst e1; subst e2
  have hn := pt_newr hq
  show pt_T W (f (ml_n v + 1) (ml_al v kd len sz)) (g (ml_n r + 1) (ml_al r kd len sz))
  rw [hn.1]
  refine k _ _ _ hn.2 (Nat.le_refl _) (Nat.le_succ _) ?_ (pt_alQ hq kd len sz)
  show (if ml_n v + 1 = ml_n v + 1 then (kd, len) else ml_K v (ml_n v + 1)).1 = kd
  rw [if_pos rfl]
theorem pt_clQ (hq : pt_Q p v0 r0 v r) (hx : pt_d p x) (hc : (ml_K v x).1 = 20) : pt_Q p v0 r0 (ml_cl2 v x) (ml_cl2 r (p x)) := by
  obtain ⟨q1, q2, q3, q4, q5⟩ := hq
  have qn := q3 1 (by decide)
  have hd : pt_d p (ml_n v + 1) := Or.inr (by rw [qn.1]; omega)
  obtain ⟨x1, x2⟩ := q4 x hx
  obtain ⟨x2, x3, x4⟩ := x2 (by rw [hc]; decide)
  refine ⟨q1, ⟨?_, ?_, ?_, ?_⟩, fun i hi => ?_, fun z hz => ?_, fun c hc => ?_⟩
  · show ml_n r + 1 + ml_n v0 = ml_n v + 1 + ml_n r0
    have := q2.1; omega
  · show ml_s r + (ml_K r (p x)).2 + ml_s v0 = ml_s v + (ml_K v x).2 + ml_s r0
    rw [x1]
    have := q2.2.1; omega
  · show ml_n v0 ≤ ml_n v + 1
    have := q2.2.2.1; omega
  · show ml_s v0 ≤ ml_s v + (ml_K v x).2
    have := q2.2.2.2; omega
  · have h := q3 (i + 1) (by omega)
    show p (ml_n v + 1 + i) = ml_n r + 1 + i ∧ (if ml_n v + 1 + i = ml_n v + 1 then ml_K v x else ml_K v (ml_n v + 1 + i)) = (99, 0) ∧ (if ml_n r + 1 + i = ml_n r + 1 then ml_K r (p x) else ml_K r (ml_n r + 1 + i)) = (99, 0)
    rw [if_neg (by omega), if_neg (by omega), show ml_n v + 1 + i = ml_n v + (i + 1) by omega, show ml_n r + 1 + i = ml_n r + (i + 1) by omega]
    exact h
  · have hz2 : p z = ml_n r + 1 ↔ z = ml_n v + 1 := by
      constructor
      · intro h; exact pt_inj q1 hz hd (h.trans qn.1.symm)
      · rintro rfl; exact qn.1
    show (if p z = ml_n r + 1 then ml_K r (p x) else ml_K r (p z)) = (if z = ml_n v + 1 then ml_K v x else ml_K v z) ∧ ((if z = ml_n v + 1 then ml_K v x else ml_K v z).1 ≠ 99 → (fun j => if p z = ml_n r + 1 then ml_I r (p x) j else ml_I r (p z) j) = (fun j => if z = ml_n v + 1 then ml_I v x j else ml_I v z j) ∧ (fun j => if p z = ml_n r + 1 then 0 else ml_J r (p z) j) = (fun j => if z = ml_n v + 1 then 0 else ml_J v z j) ∧ ∀ k, (if p z = ml_n r + 1 then 0 else ml_R r (p z) k) = p (if z = ml_n v + 1 then 0 else ml_R v z k) ∧ pt_d p (if z = ml_n v + 1 then 0 else ml_R v z k) ∧ (if z = ml_n v + 1 then 0 else ml_R v z k) ≤ ml_n v + 1)
    by_cases h : z = ml_n v + 1
    · simp only [if_pos h, if_pos (hz2.mpr h), x1, x2]
      exact ⟨trivial, fun _ => ⟨trivial, trivial, fun _ => ⟨q1.1.symm, Or.inl rfl, Nat.zero_le _⟩⟩⟩
    · simp only [if_neg h, if_neg (fun w => h (hz2.mp w))]
      refine ⟨(q4 z hz).1, fun hk => ?_⟩
      obtain ⟨e1, e2, e3⟩ := (q4 z hz).2 hk
      exact ⟨e1, e2, fun j => ⟨(e3 j).1, (e3 j).2.1, Nat.le_succ_of_le (e3 j).2.2⟩⟩
  · have hc1 : c ≠ ml_n r + 1 := fun h => hc (ml_n v + 1) (by rw [qn.1, h])
    obtain ⟨c1, c2, c3, c4⟩ := q5 c hc
    show (if c = ml_n r + 1 then ml_K r (p x) else ml_K r c) = _ ∧ (fun j => if c = ml_n r + 1 then ml_I r (p x) j else ml_I r c j) = _ ∧ (fun j => if c = ml_n r + 1 then 0 else ml_R r c j) = _ ∧ (fun j => if c = ml_n r + 1 then 0 else ml_J r c j) = _
    simp only [if_neg hc1]
    exact ⟨c1, c2, c3, c4⟩
theorem pt_cl {α β : Type} {W : α → β → Prop} {f : Nat → ml_M → Option α} {g : Nat → ml_M → Option β} (hq : pt_Q p v0 r0 v r) (h : pt_r p x y) (hc : (ml_K v x).1 = 20) (k : ∀ a m n, pt_d p a → a ≤ ml_n m → ml_n v ≤ ml_n m → (ml_K m a).1 = 20 → pt_Q p v0 r0 m n → pt_T W (f a m) (g (p a) n)) : pt_T W (ml_let (ml_n v + 1) fun a => ml_let (ml_cl2 v x) (f a)) (ml_let (ml_n r + 1) fun a => ml_let (ml_cl2 r y) (g a)) := by
  obtain ⟨rfl, h⟩ := h
  have hn := pt_newr hq
  show pt_T W (f (ml_n v + 1) (ml_cl2 v x)) (g (ml_n r + 1) (ml_cl2 r (p x)))
  rw [hn.1]
  refine k _ _ _ hn.2 (Nat.le_refl _) (Nat.le_succ _) ?_ (pt_clQ hq h hc)
  show (if ml_n v + 1 = ml_n v + 1 then ml_K v x else ml_K v (ml_n v + 1)).1 = 20
  rw [if_pos rfl]; exact hc
theorem pt_cp {x' y' : Nat} {a a' b b' c c' : Int32} (hq : pt_Q p v0 r0 v r) (h : pt_r p x y) (h' : pt_r p x' y') (e1 : a = a') (e2 : b = b') (e3 : c = c') (hc : (ml_K v x).1 = 20) : pt_Q p v0 r0 (ml_cp v x a.toNatClampNeg x' b.toNatClampNeg c.toNatClampNeg) (ml_cp r y a'.toNatClampNeg y' b'.toNatClampNeg c'.toNatClampNeg) := by
  subst e1; subst e2; subst e3
  obtain ⟨rfl, h⟩ := h
  obtain ⟨rfl, h'⟩ := h'
  obtain ⟨q1, q2, q3, q4, q5⟩ := hq
  obtain ⟨x1, x2, -⟩ := (q4 x h).2 (by rw [hc]; decide)
  refine ⟨q1, q2, q3, fun z hz => ⟨(q4 z hz).1, fun hk => ?_⟩, fun d hd => ?_⟩
  · obtain ⟨e1, e2, e3⟩ := (q4 z hz).2 hk
    refine ⟨?_, e2, e3⟩
    funext j
    show (if p z = p x' ∧ _ ≤ j ∧ j < _ then ml_I r (p x) _ else ml_I r (p z) j) = if z = x' ∧ _ ≤ j ∧ j < _ then ml_I v x _ else ml_I v z j
    by_cases hzx : z = x'
    · subst hzx; rw [e1, x1]; simp only [true_and]
    · rw [if_neg (fun w => hzx (pt_inj q1 hz h' w.1)), if_neg (fun w => hzx w.1), e1]
  · obtain ⟨c1, c2, c3, c4⟩ := q5 d hd
    refine ⟨c1, ?_, c3, c4⟩
    funext j
    show (if d = p x' ∧ _ ≤ j ∧ j < _ then ml_I r (p x) _ else ml_I r d j) = _
    rw [if_neg (fun w => hd x' w.1.symm), c2]
end writes

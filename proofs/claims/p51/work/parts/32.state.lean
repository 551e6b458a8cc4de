/-! THE STATE: what both the class and the reference hold, as small numbers (first), as ints (second), as a long.
Small numbers, by group, row, field: 0 counts (lodgers, trunks, piles, things, lines, bits, claims, wear, finding); 1 lodgers; 2 trunks; 3 piles; 4 things (kind, from, till, trunk or 100, wet, x, y); 5 lines; 6 bits; 7 claims (heir, trunk, marks); 8 rows (size + 1, or 0); 9 texts (size + 1, or 0).
Ints: 0 rows; 1 texts; 2 marks; 3 asked; 4 findings. -/
abbrev pl_A : Type := (Nat → Nat → Nat → Nat) × (Nat → Nat → Nat → Int32) × Int64
def pl_N (A : pl_A) (g i k : Nat) : Nat := A.1 g i k
def pl_V (A : pl_A) (g i k : Nat) : Int32 := A.2.1 g i k
def pl_L (A : pl_A) : Int64 := A.2.2
def pl_sN (A : pl_A) (g i k v : Nat) : pl_A := (fun a b c => if a = g ∧ b = i ∧ c = k then v else A.1 a b c, A.2.1, A.2.2)
def pl_sV (A : pl_A) (g i k : Nat) (v : Int32) : pl_A := (A.1, fun a b c => if a = g ∧ b = i ∧ c = k then v else A.2.1 a b c, A.2.2)
/-- all ints of a row anew -/
def pl_sVr (A : pl_A) (g i : Nat) (f : Nat → Int32) : pl_A := (A.1, fun a b c => if a = g ∧ b = i then f c else A.2.1 a b c, A.2.2)
def pl_sL (A : pl_A) (v : Int64) : pl_A := (A.1, A.2.1, v)
theorem pl_N_sN (A : pl_A) (g i k v a b c : Nat) : pl_N (pl_sN A g i k v) a b c = if a = g ∧ b = i ∧ c = k then v else pl_N A a b c := by
  have h : pl_N (pl_sN A g i k v) a b c = if a = g ∧ b = i ∧ c = k then v else pl_N A a b c := rfl
  exact h
theorem pl_N_sV (A : pl_A) (g i k : Nat) (v : Int32) (a b c : Nat) : pl_N (pl_sV A g i k v) a b c = pl_N A a b c := by
  have h : pl_N (pl_sV A g i k v) a b c = pl_N A a b c := rfl
  exact h
theorem pl_N_sVr (A : pl_A) (g i : Nat) (f : Nat → Int32) (a b c : Nat) : pl_N (pl_sVr A g i f) a b c = pl_N A a b c := by
  have h : pl_N (pl_sVr A g i f) a b c = pl_N A a b c := rfl
  exact h
theorem pl_N_sL (A : pl_A) (v : Int64) (a b c : Nat) : pl_N (pl_sL A v) a b c = pl_N A a b c := by
  have h : pl_N (pl_sL A v) a b c = pl_N A a b c := rfl
  exact h
theorem pl_V_sN (A : pl_A) (g i k v a b c : Nat) : pl_V (pl_sN A g i k v) a b c = pl_V A a b c := by
  have h : pl_V (pl_sN A g i k v) a b c = pl_V A a b c := rfl
  exact h
theorem pl_V_sV (A : pl_A) (g i k : Nat) (v : Int32) (a b c : Nat) : pl_V (pl_sV A g i k v) a b c = if a = g ∧ b = i ∧ c = k then v else pl_V A a b c := by
  have h : pl_V (pl_sV A g i k v) a b c = if a = g ∧ b = i ∧ c = k then v else pl_V A a b c := rfl
  exact h
theorem pl_V_sVr (A : pl_A) (g i : Nat) (f : Nat → Int32) (a b c : Nat) : pl_V (pl_sVr A g i f) a b c = if a = g ∧ b = i then f c else pl_V A a b c := by
  have h : pl_V (pl_sVr A g i f) a b c = if a = g ∧ b = i then f c else pl_V A a b c := rfl
  exact h
theorem pl_V_sL (A : pl_A) (v : Int64) (a b c : Nat) : pl_V (pl_sL A v) a b c = pl_V A a b c := by
  have h : pl_V (pl_sL A v) a b c = pl_V A a b c := rfl
  exact h
theorem pl_L_sN (A : pl_A) (g i k v : Nat) : pl_L (pl_sN A g i k v) = pl_L A := by
  have h : pl_L (pl_sN A g i k v) = pl_L A := rfl
  exact h
theorem pl_L_sV (A : pl_A) (g i k : Nat) (v : Int32) : pl_L (pl_sV A g i k v) = pl_L A := by
  have h : pl_L (pl_sV A g i k v) = pl_L A := rfl
  exact h
theorem pl_L_sVr (A : pl_A) (g i : Nat) (f : Nat → Int32) : pl_L (pl_sVr A g i f) = pl_L A := by
  have h : pl_L (pl_sVr A g i f) = pl_L A := rfl
  exact h
theorem pl_L_sL (A : pl_A) (v : Int64) : pl_L (pl_sL A v) = v := by
  have h : pl_L (pl_sL A v) = v := rfl
  exact h
/-- steps from 0 to n - 1 -/
def pl_it {α : Type} (f : Nat → α → α) : Nat → α → α
  | 0, a => a
  | n + 1, a => f n (pl_it f n a)
/-- the set of those below n that have p -/
def pl_set (p : Nat → Bool) : Nat → Nat
  | 0 => 0
  | n + 1 => if p n then pl_set p n ||| 2 ^ n else pl_set p n
def pl_cnt (p : Nat → Bool) : Nat → Nat
  | 0 => 0
  | n + 1 => if p n then pl_cnt p n + 1 else pl_cnt p n
/-- the bits of f 0 .. f (n - 1) together -/
def pl_ors (f : Nat → Nat) : Nat → Nat
  | 0 => 0
  | n + 1 => pl_ors f n ||| f n
def pl_all (p : Nat → Bool) : Nat → Bool
  | 0 => true
  | n + 1 => pl_all p n && p n
/-- whether lodger l may have owned thing i -/
def pl_may (A : pl_A) (l i : Nat) : Bool :=
  decide (pl_N A 1 l 0 ≤ pl_N A 4 i 2 ∧ pl_N A 4 i 1 ≤ pl_N A 1 l 1) &&
  (if pl_N A 4 i 0 = 1 then decide (pl_N A 4 i 5 ≤ pl_N A 1 l 2 + 1 ∧ pl_N A 1 l 2 ≤ pl_N A 4 i 5 + 1)
   else if pl_N A 4 i 0 = 2 then decide ((pl_N A 4 i 5 / 10 = pl_N A 1 l 3 ∨ pl_N A 4 i 5 / 10 = 0) ∧ pl_N A 4 i 5 % 10 ≠ pl_N A 1 l 4)
   else if pl_N A 4 i 0 = 3 then decide (pl_N A 4 i 6 = l ∧ (pl_N A 4 i 5 / 10 = pl_N A 1 l 3 ∨ pl_N A 4 i 5 / 10 = 0) ∧ pl_N A 4 i 5 % 10 ≠ pl_N A 1 l 4)
   else if pl_N A 4 i 0 = 4 then decide (pl_N A 4 i 5 / 10 = pl_N A 1 l 3 ∨ pl_N A 4 i 5 % 10 = pl_N A 1 l 3)
   else true)
def pl_own (A : pl_A) (i : Nat) : Nat := pl_set (fun l => pl_may A l i) (pl_N A 0 0 0)
def pl_abv (A : pl_A) (t : Nat) : Nat := pl_ors (fun k => if pl_N A 3 k 0 = t then 2 ^ pl_N A 3 k 1 else 0) (pl_N A 0 2 0)
def pl_blw (A : pl_A) (t : Nat) : Nat := pl_ors (fun k => if pl_N A 3 k 1 = t then 2 ^ pl_N A 3 k 0 else 0) (pl_N A 0 2 0)
def pl_cov (A : pl_A) (set : Nat) : Bool := pl_all (fun i => decide (pl_own A i &&& set ≠ 0)) (pl_N A 0 3 0)
/-- rows of unlike lodgers that go on from one, in their order -/
def pl_gv (nl : Nat) : Nat → List Nat → List (List Nat)
  | 0, pre => [pre]
  | r + 1, pre => (List.range nl).flatMap fun l => if l ∈ pre then [] else pl_gv nl r (pre ++ [l])
def pl_good (A : pl_A) (w : List Nat) : Bool :=
  pl_all (fun k => decide (pl_N A 1 (w.getD (pl_N A 3 k 0) 0) 1 ≤ pl_N A 1 (w.getD (pl_N A 3 k 1) 0) 1)) (pl_N A 0 2 0) && pl_cov A (w.foldl (fun s l => s ||| 2 ^ l) 0)
def pl_moved (A : pl_A) (w : List Nat) : Nat := pl_cnt (fun i => decide (pl_N A 4 i 3 ≠ 100) && !pl_may A (w.getD (pl_N A 4 i 3) 0) i) (pl_N A 0 3 0)
def pl_S (A : pl_A) : List (List Nat) := (pl_gv (pl_N A 0 0 0) (pl_N A 0 1 0) []).filter (pl_good A)
def pl_best (A : pl_A) : Option (Nat × List Nat) := (pl_S A).foldl (fun b w => match b with
  | none => some (pl_moved A w, w)
  | some q => if pl_moved A w < q.1 then some (pl_moved A w, w) else b) none
def pl_of (A : pl_A) (n : Nat) : List (List Nat) := (pl_S A).filter fun w => decide (pl_moved A w ≤ n)
/-- whether bit i joins bit j -/
def pl_jn (A : pl_A) (i j : Nat) : Bool := decide (pl_N A 6 i 3 + pl_N A 6 j 2 = 1000 ∧ pl_N A 6 i 0 = pl_N A 6 j 0 ∧ pl_N A 6 i 1 = pl_N A 6 j 1)
/-- fewest sheets that the d bits not in a set begin, in how many rows; js: which ones join the last one laid -/
def pl_G (A : pl_A) : Nat → Nat → (Nat → Bool) → Nat × Nat
  | 0, _, _ => (0, 1)
  | d + 1, set, js => pl_it (fun j acc => if set.testBit j then acc else
      if (pl_G A d (set ||| 2 ^ j) (pl_jn A j)).1 + (if js j then 0 else 1) < acc.1 then ((pl_G A d (set ||| 2 ^ j) (pl_jn A j)).1 + (if js j then 0 else 1), (pl_G A d (set ||| 2 ^ j) (pl_jn A j)).2)
      else if (pl_G A d (set ||| 2 ^ j) (pl_jn A j)).1 + (if js j then 0 else 1) = acc.1 then (acc.1, acc.2 + (pl_G A d (set ||| 2 ^ j) (pl_jn A j)).2) else acc) (pl_N A 0 5 0) (100, 0)
/-- the least below n that has p, or n -/
def pl_lst (p : Nat → Bool) : Nat → Nat
  | 0 => 0
  | n + 1 => if pl_lst p n < n then pl_lst p n else if p n then n else n + 1
def pl_fr (A : pl_A) : Nat → Nat → (Nat → Bool) → List Nat
  | 0, _, _ => []
  | d + 1, set, js =>
    let i := pl_lst (fun j => !set.testBit j && decide ((pl_G A d (set ||| 2 ^ j) (pl_jn A j)).1 + (if js j then 0 else 1) = (pl_G A (d + 1) set js).1)) (pl_N A 0 5 0)
    i :: pl_fr A d (set ||| 2 ^ i) (pl_jn A i)
def pl_tc (c : Nat) : Int32 := if c = 100 then -9 else nI c
def pl_sz (c : Nat) : Int32 := if c = 0 then -1 else nI (c - 1)
/-- a byte -/
def pl_by (v : Int32) : Prop := ∃ z : Int32, v = z.toInt8.toInt32
/-- the bounds of the state -/
def pl_Wc (A : pl_A) : Prop := pl_N A 0 0 0 ≤ 8 ∧ pl_N A 0 1 0 ≤ 8 ∧ pl_N A 0 2 0 ≤ 12 ∧ pl_N A 0 3 0 ≤ 20 ∧ pl_N A 0 4 0 ≤ 8 ∧ pl_N A 0 5 0 ≤ 10 ∧ pl_N A 0 6 0 ≤ 8 ∧ pl_N A 0 7 0 ≤ 4 ∧ pl_N A 0 8 0 ≤ 5
def pl_Wl (A : pl_A) : Prop := ∀ l, l < pl_N A 0 0 0 → pl_N A 1 l 0 ≤ 99 ∧ pl_N A 1 l 1 ≤ 99 ∧ pl_N A 1 l 2 ≤ 9 ∧ pl_N A 1 l 3 ≤ 9 ∧ pl_N A 1 l 4 ≤ 9
def pl_Wt (A : pl_A) : Prop := ∀ t, t < pl_N A 0 1 0 → pl_N A 2 t 0 ≤ 9999 ∧ pl_N A 2 t 1 ≤ 9
def pl_Wp (A : pl_A) : Prop := ∀ k, k < pl_N A 0 2 0 → pl_N A 3 k 0 < pl_N A 0 1 0 ∧ pl_N A 3 k 1 < pl_N A 0 1 0 ∧ pl_N A 3 k 0 ≠ pl_N A 3 k 1
def pl_Wi (A : pl_A) : Prop := ∀ i, i < pl_N A 0 3 0 → (1 ≤ pl_N A 4 i 0 ∧ pl_N A 4 i 0 ≤ 5) ∧ pl_N A 4 i 1 ≤ pl_N A 4 i 2 ∧ pl_N A 4 i 2 ≤ 99 ∧ (pl_N A 4 i 3 = 100 ∨ pl_N A 4 i 3 < pl_N A 0 1 0) ∧ pl_N A 4 i 4 ≤ 1 ∧ pl_N A 4 i 5 ≤ 9999 ∧ pl_N A 4 i 6 ≤ 9
def pl_Wn (A : pl_A) : Prop := ∀ l, l < pl_N A 0 4 0 → pl_N A 5 l 0 ≤ 20 ∧ pl_N A 5 l 1 ≤ 99 ∧ pl_N A 5 l 2 ≤ 99
def pl_Wb (A : pl_A) : Prop := ∀ i, i < pl_N A 0 5 0 → pl_N A 6 i 0 ≤ 9 ∧ pl_N A 6 i 1 ≤ 9 ∧ pl_N A 6 i 2 ≤ 999 ∧ pl_N A 6 i 3 ≤ 999
def pl_Wk (A : pl_A) : Prop := ∀ c, c < pl_N A 0 6 0 → pl_N A 7 c 0 ≤ 9 ∧ pl_N A 7 c 1 < pl_N A 0 1 0 ∧ (1 ≤ pl_N A 7 c 2 ∧ pl_N A 7 c 2 ≤ 24) ∧ ∀ j, j < pl_N A 7 c 2 → ∃ kd, 1 ≤ kd ∧ kd ≤ 5 ∧ pl_V A 2 c (2 * j) = nI kd
def pl_Wr (A : pl_A) : Prop := (∀ r, r < 6 → pl_N A 8 r 0 ≤ 49) ∧ (∀ t, t < 4 → pl_N A 9 t 0 ≤ 121) ∧ ∀ t j, t < 4 → j + 1 < pl_N A 9 t 0 → pl_by (pl_V A 1 t j)
def pl_W (A : pl_A) : Prop := pl_Wc A ∧ pl_Wl A ∧ pl_Wt A ∧ pl_Wp A ∧ pl_Wi A ∧ pl_Wn A ∧ pl_Wb A ∧ pl_Wk A ∧ pl_Wr A
/-- the reference holds the state -/
def pl_Mb (A : pl_A) (m : ml_M) : Prop := ml_I m 33 9 = nI (pl_N A 0 0 0) ∧ ml_I m 33 10 = nI (pl_N A 0 1 0) ∧ ml_I m 33 11 = nI (pl_N A 0 2 0) ∧ ml_I m 33 24 = nI (pl_N A 0 3 0) ∧ ml_I m 33 34 = nI (pl_N A 0 4 0) ∧ ml_I m 33 37 = nI (pl_N A 0 5 0) ∧ ml_I m 33 46 = nI (pl_N A 0 6 0) ∧ ml_I m 33 23 = nI (pl_N A 0 7 0) ∧ ml_I m 33 0 = nI (pl_N A 0 8 0) ∧ ml_I m 33 2 = pl_V A 3 0 0 ∧ ml_J m 33 3 = pl_L A ∧ ∀ f, f < 6 → ml_I m 34 f = pl_V A 4 0 f
def pl_Mr (A : pl_A) (m : ml_M) : Prop := ∀ r, r < 6 → ml_I m 35 r = pl_sz (pl_N A 8 r 0) ∧ ∀ j, j + 1 < pl_N A 8 r 0 → ml_I m 36 (48 * r + j) = pl_V A 0 r j
def pl_Mt (A : pl_A) (m : ml_M) : Prop := ∀ t, t < 4 → ml_I m 38 t = pl_sz (pl_N A 9 t 0) ∧ ∀ j, j + 1 < pl_N A 9 t 0 → ml_I m 39 (120 * t + j) = pl_V A 1 t j
def pl_Mh (A : pl_A) (m : ml_M) : Prop := (∀ l, l < pl_N A 0 0 0 → ∀ k, k < 5 → ml_I m 40 (5 * l + k) = nI (pl_N A 1 l k)) ∧ (∀ t, t < pl_N A 0 1 0 → ∀ k, k < 2 → ml_I m 41 (2 * t + k) = nI (pl_N A 2 t k)) ∧ ∀ q, q < pl_N A 0 2 0 → ∀ k, k < 2 → ml_I m 42 (2 * q + k) = nI (pl_N A 3 q k)
def pl_Mi (A : pl_A) (m : ml_M) : Prop := ∀ i, i < pl_N A 0 3 0 → ∀ k, k < 7 → ml_I m 46 (7 * i + k) = if k = 3 then pl_tc (pl_N A 4 i 3) else nI (pl_N A 4 i k)
def pl_Mn (A : pl_A) (m : ml_M) : Prop := (∀ l, l < pl_N A 0 4 0 → ∀ k, k < 3 → ml_I m 51 (3 * l + k) = nI (pl_N A 5 l k)) ∧ (∀ i, i < pl_N A 0 5 0 → ∀ k, k < 4 → ml_I m 53 (4 * i + k) = nI (pl_N A 6 i k)) ∧ ∀ c, c < pl_N A 0 6 0 → (∀ k, k < 3 → ml_I m 60 (51 * c + k) = nI (pl_N A 7 c k)) ∧ ∀ j, j < 2 * pl_N A 7 c 2 → ml_I m 60 (51 * c + (3 + j)) = pl_V A 2 c j
def pl_M (A : pl_A) (m : ml_M) : Prop := pl_Mb A m ∧ pl_Mr A m ∧ pl_Mt A m ∧ pl_Mh A m ∧ pl_Mi A m ∧ pl_Mn A m
/-- a cell of the class that is made in a call -/
def pl_dy (m : ml_M) (a : Nat) (q : Nat × Nat) : Prop := 60 < a ∧ a ≤ ml_n m ∧ ml_K m a = q
def pl_cl (m : ml_M) (a : Nat) (q : Nat × Nat) : Prop := (a < 33 ∨ 60 < a) ∧ a ≤ ml_n m ∧ ml_K m a = q
/-- the class holds the state -/
def pl_Cb (A : pl_A) (m : ml_M) : Prop := ml_I m 1 3 = nI (pl_N A 0 7 0) ∧ ml_I m 1 5 = nI (pl_N A 0 3 0) ∧ ml_I m 1 7 = nI (pl_N A 0 4 0) ∧ ml_I m 1 9 = nI (pl_N A 0 5 0) ∧ ml_I m 1 11 = nI (pl_N A 0 6 0) ∧ ml_I m 1 17 = nI (pl_N A 0 8 0) ∧ ml_I m 1 15 = pl_V A 3 0 0 ∧ ml_J m 1 16 = pl_L A ∧ ∀ f, f < 6 → ml_I m 32 f = pl_V A 4 0 f
def pl_Cr (A : pl_A) (m : ml_M) : Prop := (∀ r, r < 6 → (pl_N A 8 r 0 = 0 ∧ ml_R m 2 r = 0) ∨ (0 < pl_N A 8 r 0 ∧ pl_dy m (ml_R m 2 r) (20, pl_N A 8 r 0 - 1) ∧ ∀ j, j + 1 < pl_N A 8 r 0 → ml_I m (ml_R m 2 r) j = pl_V A 0 r j)) ∧ ∀ r q, r < 6 → q < 6 → ml_R m 2 r ≠ 0 → ml_R m 2 r = ml_R m 2 q → r = q
def pl_Ct (A : pl_A) (m : ml_M) : Prop := (∀ r, r < 4 → (pl_N A 9 r 0 = 0 ∧ ml_R m 3 r = 0) ∨ (0 < pl_N A 9 r 0 ∧ pl_dy m (ml_R m 3 r) (21, pl_N A 9 r 0 - 1) ∧ ∀ j, j + 1 < pl_N A 9 r 0 → ml_I m (ml_R m 3 r) j = pl_V A 1 r j)) ∧ ∀ r q, r < 4 → q < 4 → ml_R m 3 r ≠ 0 → ml_R m 3 r = ml_R m 3 q → r = q
def pl_Ch (A : pl_A) (m : ml_M) : Prop := pl_cl m (ml_R m 1 2) (1, 0) ∧ pl_cl m (ml_R m (ml_R m 1 2) 0) (28, 8) ∧ pl_cl m (ml_R m (ml_R m 1 2) 1) (30, 8) ∧ ml_I m (ml_R m 1 2) 2 = nI (pl_N A 0 0 0) ∧ ml_I m (ml_R m 1 2) 3 = nI (pl_N A 0 1 0) ∧
  (∀ l, l < pl_N A 0 0 0 → pl_dy m (ml_R m (ml_R m (ml_R m 1 2) 0) l) (6, 0) ∧ ∀ k, k < 5 → ml_I m (ml_R m (ml_R m (ml_R m 1 2) 0) l) k = nI (pl_N A 1 l k)) ∧
  ∀ t, t < pl_N A 0 1 0 → pl_dy m (ml_R m (ml_R m (ml_R m 1 2) 1) t) (9, 0) ∧ ml_I m (ml_R m (ml_R m (ml_R m 1 2) 1) t) 0 = nI (pl_N A 2 t 0) ∧ ml_I m (ml_R m (ml_R m (ml_R m 1 2) 1) t) 1 = nI (pl_N A 2 t 1) ∧ ml_I m (ml_R m (ml_R m (ml_R m 1 2) 1) t) 2 = nI (pl_abv A t) ∧ ml_I m (ml_R m (ml_R m (ml_R m 1 2) 1) t) 3 = nI (pl_blw A t)
def pl_Ci (A : pl_A) (m : ml_M) : Prop := (∀ i, i < pl_N A 0 3 0 → pl_dy m (ml_R m 8 i) (8, 0) ∧ ml_I m (ml_R m 8 i) 0 = nI (pl_N A 4 i 0) ∧ ml_I m (ml_R m 8 i) 1 = nI (pl_N A 4 i 1) ∧ ml_I m (ml_R m 8 i) 2 = nI (pl_N A 4 i 2) ∧ ml_I m (ml_R m 8 i) 3 = nI (pl_N A 4 i 5) ∧ ml_I m (ml_R m 8 i) 4 = (if pl_N A 4 i 0 = 3 then nI (pl_N A 4 i 6) else -9) ∧ ml_I m (ml_R m 8 i) 5 = nI (pl_own A i) ∧ ml_I m (ml_R m 8 i) 6 = pl_tc (pl_N A 4 i 3) ∧ ml_I m (ml_R m 8 i) 7 = nI (pl_N A 4 i 4)) ∧ ∀ i j, i < pl_N A 0 3 0 → j < pl_N A 0 3 0 → ml_R m 8 i = ml_R m 8 j → i = j
def pl_Cn (A : pl_A) (m : ml_M) : Prop := (∀ l, l < pl_N A 0 4 0 → pl_dy m (ml_R m 9 l) (5, 0) ∧ ∀ k, k < 3 → ml_I m (ml_R m 9 l) k = nI (pl_N A 5 l k)) ∧ ∀ i, i < pl_N A 0 5 0 → pl_dy m (ml_R m 10 i) (0, 0) ∧ ∀ k, k < 4 → ml_I m (ml_R m 10 i) k = nI (pl_N A 6 i k)
def pl_Ck (A : pl_A) (m : ml_M) : Prop := ∀ c, c < pl_N A 0 6 0 → pl_dy m (ml_R m 11 c) (2, 0) ∧ ml_I m (ml_R m 11 c) 0 = nI (pl_N A 7 c 0) ∧ ml_I m (ml_R m 11 c) 1 = nI (pl_N A 7 c 1) ∧ pl_dy m (ml_R m (ml_R m 11 c) 2) (20, 2 * pl_N A 7 c 2) ∧ (∀ r, r < 6 → ml_R m 2 r ≠ ml_R m (ml_R m 11 c) 2) ∧ ∀ j, j < 2 * pl_N A 7 c 2 → ml_I m (ml_R m (ml_R m 11 c) 2) j = pl_V A 2 c j
def pl_Cs (A : pl_A) (m : ml_M) : Prop := ml_I m 12 0 = 1 ∨ (ml_I m 12 0 = 0 ∧ ml_R m 12 5 = ml_R m (ml_R m 1 2) 1 ∧ ml_I m 12 6 = nI (pl_N A 0 1 0) ∧ ml_I m 12 7 = nI (pl_N A 0 0 0) ∧ (ml_I m 12 1 = match pl_best A with
    | none => -9
    | some q => nI q.1) ∧ (∀ q, pl_best A = some q → ∀ t, t < pl_N A 0 1 0 → ml_I m 13 t = nI (q.2.getD t 0)) ∧ (∀ n, n ≤ 20 → ml_I m 14 n = nI (pl_of A n).length ∧ ∀ t l, t < pl_N A 0 1 0 → l < pl_N A 0 0 0 → ml_I m 15 (n * 64 + t * 8 + l) = nI ((pl_of A n).filter fun w => w.getD t 0 == l).length) ∧
    (∀ set, set < 2 ^ pl_N A 0 0 0 → ml_I m 17 set = if pl_cov A set then 1 else 0) ∧ ∀ l, l < pl_N A 0 0 0 → ml_I m 18 l = nI (pl_set (fun o => decide (pl_N A 1 l 1 ≤ pl_N A 1 o 1)) (pl_N A 0 0 0)) ∧ ml_I m 19 l = nI (pl_set (fun o => decide (pl_N A 1 o 1 ≤ pl_N A 1 l 1)) (pl_N A 0 0 0)))
def pl_Cy (A : pl_A) (m : ml_M) : Prop := (ml_I m 21 0 = 1 ∨ (ml_I m 21 0 = 0 ∧ ml_I m 21 1 = nI (pl_G A (pl_N A 0 5 0) 0 fun _ => false).1 ∧ ml_I m 21 2 = nI (pl_G A (pl_N A 0 5 0) 0 fun _ => false).2 ∧ ∀ k, k < pl_N A 0 5 0 → ml_I m 22 k = nI ((pl_fr A (pl_N A 0 5 0) 0 fun _ => false).getD k 0))) ∧ ml_I m 31 0 = 0
def pl_C (A : pl_A) (m : ml_M) : Prop := pl_Cb A m ∧ pl_Cr A m ∧ pl_Ct A m ∧ pl_Ch A m ∧ pl_Ci A m ∧ pl_Cn A m ∧ pl_Ck A m ∧ pl_Cs A m ∧ pl_Cy A m
/-- all that stands between two calls -/
def pl_Rel (A : pl_A) (m : ml_M) : Prop := pl_Sh m ∧ pl_W A ∧ pl_M A m ∧ pl_C A m
/-- a change in the reference's cells alone -/
def pl_mo (m m1 : ml_M) : Prop := ml_n m1 = ml_n m ∧ ml_s m1 = ml_s m ∧ ml_K m1 = ml_K m ∧ ml_R m1 = ml_R m ∧ ∀ a, a < 33 ∨ 60 < a → ml_I m1 a = ml_I m a ∧ ml_J m1 a = ml_J m a
theorem pl_mo.refl (m : ml_M) : pl_mo m m := ⟨rfl, rfl, rfl, rfl, fun _ _ => ⟨rfl, rfl⟩⟩
theorem pl_mo.trans {m m1 m2 : ml_M} (h : pl_mo m m1) (h2 : pl_mo m1 m2) : pl_mo m m2 :=
  ⟨h2.1.trans h.1, h2.2.1.trans h.2.1, h2.2.2.1.trans h.2.2.1, h2.2.2.2.1.trans h.2.2.2.1, fun a ha => ⟨(h2.2.2.2.2 a ha).1.trans (h.2.2.2.2 a ha).1, (h2.2.2.2.2 a ha).2.trans (h.2.2.2.2 a ha).2⟩⟩
theorem pl_mo.sI {m m1 : ml_M} (h : pl_mo m m1) {a k : Nat} {v : Int32} (ha : 33 ≤ a ∧ a ≤ 60) : pl_mo m (ml_sI m1 a k v) := by
  refine h.trans ⟨rfl, rfl, rfl, rfl, fun b hb => ⟨?_, rfl⟩⟩
  funext j
  rw [pl_I_sI, if_neg (by omega)]
theorem pl_mo.sJ {m m1 : ml_M} (h : pl_mo m m1) {a k : Nat} {v : Int64} (ha : 33 ≤ a ∧ a ≤ 60) : pl_mo m (ml_sJ m1 a k v) := by
  refine h.trans ⟨rfl, rfl, rfl, rfl, fun b hb => ⟨rfl, ?_⟩⟩
  funext j
  rw [pl_J_sJ, if_neg (by omega)]
theorem pl_mo.sh {m m1 : ml_M} (h : pl_mo m m1) (hs : pl_Sh m) : pl_Sh m1 := hs.to (by rw [h.1]; exact Nat.le_refl _) (fun a _ => by rw [h.2.2.1]) (fun q _ => by rw [h.2.2.2.1])
/-- a change in the class's cells alone -/
def pl_co (m m1 : ml_M) : Prop := ∀ a, 33 ≤ a → a ≤ 60 → ml_I m1 a = ml_I m a ∧ ml_J m1 a = ml_J m a
theorem pl_co.refl (m : ml_M) : pl_co m m := fun _ _ _ => ⟨rfl, rfl⟩
theorem pl_co.m {A : pl_A} {m m1 : ml_M} (h : pl_co m m1) (hM : pl_M A m) : pl_M A m1 := by
  obtain ⟨h1, h2, h3, h4, h5, h6⟩ := hM
  have e : ∀ a, 33 ≤ a → a ≤ 60 → ml_I m1 a = ml_I m a := fun a h1 h2 => (h a h1 h2).1
  refine ⟨?_, ?_, ?_, ?_, ?_, ?_⟩
  · unfold pl_Mb at *; rw [e 33 (by decide) (by decide), e 34 (by decide) (by decide), (h 33 (by decide) (by decide)).2]; exact h1
  · unfold pl_Mr at *; rw [e 35 (by decide) (by decide), e 36 (by decide) (by decide)]; exact h2
  · unfold pl_Mt at *; rw [e 38 (by decide) (by decide), e 39 (by decide) (by decide)]; exact h3
  · unfold pl_Mh at *; rw [e 40 (by decide) (by decide), e 41 (by decide) (by decide), e 42 (by decide) (by decide)]; exact h4
  · unfold pl_Mi at *; rw [e 46 (by decide) (by decide)]; exact h5
  · unfold pl_Mn at *; rw [e 51 (by decide) (by decide), e 53 (by decide) (by decide), e 60 (by decide) (by decide)]; exact h6
/-- cells kept but for some -/
def pl_ex (xs : List Nat) (m m1 : ml_M) : Prop := ml_n m ≤ ml_n m1 ∧ (∀ a, a ≤ ml_n m → ml_K m1 a = ml_K m a) ∧ ∀ a, a ≤ ml_n m → a ∉ xs → ml_I m1 a = ml_I m a ∧ ml_R m1 a = ml_R m a
def pl_mods : List Nat := [33, 34, 35, 36, 37, 38, 39, 40, 41, 42, 43, 44, 45, 46, 47, 48, 49, 50, 51, 52, 53, 54, 55, 56, 57, 58, 59, 60]
theorem pl_mods_in : ∀ a, a ∉ pl_mods → a < 33 ∨ 60 < a := by
  intro a h
  refine Classical.byContradiction fun hc => h ?_
  have h1 : 33 ≤ a ∧ a ≤ 60 := by omega
  have h2 : ∀ d : Fin 28, 33 + d.val ∈ pl_mods := by decide
  have := h2 ⟨a - 33, by omega⟩
  rw [show 33 + (a - 33) = a by omega] at this
  exact this
theorem pl_mo.ex {m m1 : ml_M} (h : pl_mo m m1) : pl_ex pl_mods m m1 := ⟨by rw [h.1]; exact Nat.le_refl _, fun a _ => by rw [h.2.2.1], fun a _ ha => ⟨(h.2.2.2.2 a (pl_mods_in a ha)).1, by rw [h.2.2.2.1]⟩⟩
theorem pl_dy.fr {xs : List Nat} {m m1 : ml_M} {a : Nat} {q : Nat × Nat} (h : pl_dy m a q) (hx : pl_ex xs m m1) : pl_dy m1 a q := ⟨h.1, Nat.le_trans h.2.1 hx.1, by rw [hx.2.1 a h.2.1]; exact h.2.2⟩
theorem pl_cl.fr {xs : List Nat} {m m1 : ml_M} {a : Nat} {q : Nat × Nat} (h : pl_cl m a q) (hx : pl_ex xs m m1) : pl_cl m1 a q := ⟨h.1, Nat.le_trans h.2.1 hx.1, by rw [hx.2.1 a h.2.1]; exact h.2.2⟩
theorem pl_dy.nin {xs : List Nat} {m : ml_M} {a kd n : Nat} (h : pl_dy m a (kd, n)) (hk : ∀ b ∈ xs, b ≤ 60 ∨ (ml_K m b).1 ≠ kd) : a ∉ xs := fun hc => by
  rcases hk a hc with h1 | h1
  · have := h.1; omega
  · rw [h.2.2] at h1; exact h1 rfl
theorem pl_cl.nin {xs : List Nat} {m : ml_M} {a kd n : Nat} (h : pl_cl m a (kd, n)) (hk : ∀ b ∈ xs, (ml_K m b).1 ≠ kd) : a ∉ xs := fun hc => by
  have h1 := hk a hc
  rw [h.2.2] at h1; exact h1 rfl
theorem pl_Cr.fr {A B : pl_A} {m m1 : ml_M} {xs : List Nat} (h : pl_Cr A m) (hs : pl_Sh m) (hx : pl_ex xs m m1) (h2 : 2 ∉ xs) (hk : ∀ a ∈ xs, a ≤ 60 ∨ (ml_K m a).1 ≠ 20) (e : pl_N B 8 = pl_N A 8) (v : pl_V B 0 = pl_V A 0) : pl_Cr B m1 := by
  have hn := hs.2.2
  have hr : ml_R m1 2 = ml_R m 2 := (hx.2.2 2 (by omega) h2).2
  unfold pl_Cr
  rw [e, v, hr]
  refine ⟨fun r hr6 => ?_, h.2⟩
  rcases h.1 r hr6 with h1 | ⟨h1, h3, h4⟩
  · exact Or.inl h1
  · refine Or.inr ⟨h1, h3.fr hx, fun j hj => ?_⟩
    rw [(hx.2.2 _ h3.2.1 (h3.nin hk)).1]
    exact h4 j hj
theorem pl_Ct.fr {A B : pl_A} {m m1 : ml_M} {xs : List Nat} (h : pl_Ct A m) (hs : pl_Sh m) (hx : pl_ex xs m m1) (h2 : 3 ∉ xs) (hk : ∀ a ∈ xs, a ≤ 60 ∨ (ml_K m a).1 ≠ 21) (e : pl_N B 9 = pl_N A 9) (v : pl_V B 1 = pl_V A 1) : pl_Ct B m1 := by
  have hn := hs.2.2
  have hr : ml_R m1 3 = ml_R m 3 := (hx.2.2 3 (by omega) h2).2
  unfold pl_Ct
  rw [e, v, hr]
  refine ⟨fun r hr6 => ?_, h.2⟩
  rcases h.1 r hr6 with h1 | ⟨h1, h3, h4⟩
  · exact Or.inl h1
  · refine Or.inr ⟨h1, h3.fr hx, fun j hj => ?_⟩
    rw [(hx.2.2 _ h3.2.1 (h3.nin hk)).1]
    exact h4 j hj
theorem pl_abv_eq {A B : pl_A} (e3 : pl_N B 3 = pl_N A 3) (c2 : pl_N B 0 2 0 = pl_N A 0 2 0) : pl_abv B = pl_abv A := by
  funext t; unfold pl_abv; rw [e3, c2]
theorem pl_blw_eq {A B : pl_A} (e3 : pl_N B 3 = pl_N A 3) (c2 : pl_N B 0 2 0 = pl_N A 0 2 0) : pl_blw B = pl_blw A := by
  funext t; unfold pl_blw; rw [e3, c2]
theorem pl_may_eq {A B : pl_A} (e1 : pl_N B 1 = pl_N A 1) (e4 : pl_N B 4 = pl_N A 4) : pl_may B = pl_may A := by
  funext l i; unfold pl_may; rw [e1, e4]
theorem pl_own_eq {A B : pl_A} (e1 : pl_N B 1 = pl_N A 1) (e4 : pl_N B 4 = pl_N A 4) (c0 : pl_N B 0 0 0 = pl_N A 0 0 0) : pl_own B = pl_own A := by
  funext i; unfold pl_own; rw [pl_may_eq e1 e4, c0]
theorem pl_Ch.fr {A B : pl_A} {m m1 : ml_M} {xs : List Nat} (h : pl_Ch A m) (hx : pl_ex xs m m1) (hr : ml_R m1 1 2 = ml_R m 1 2) (hk : ∀ k ∈ [1, 28, 30], ∀ a ∈ xs, (ml_K m a).1 ≠ k) (hk2 : ∀ k ∈ [6, 9], ∀ a ∈ xs, a ≤ 60 ∨ (ml_K m a).1 ≠ k)
    (e1 : pl_N B 1 = pl_N A 1) (e2 : pl_N B 2 = pl_N A 2) (e3 : pl_N B 3 = pl_N A 3) (c0 : pl_N B 0 0 0 = pl_N A 0 0 0) (c1 : pl_N B 0 1 0 = pl_N A 0 1 0) (c2 : pl_N B 0 2 0 = pl_N A 0 2 0) : pl_Ch B m1 := by
  obtain ⟨h1, h2, h3, h4, h5, h6, h7⟩ := h
  have z1 := hx.2.2 _ h1.2.1 (h1.nin (hk 1 (by decide)))
  have z2 := hx.2.2 _ h2.2.1 (h2.nin (hk 28 (by decide)))
  have z3 := hx.2.2 _ h3.2.1 (h3.nin (hk 30 (by decide)))
  unfold pl_Ch
  rw [hr, z1.1, z1.2, z2.2, z3.2, e1, e2, c0, c1, pl_abv_eq e3 c2, pl_blw_eq e3 c2]
  refine ⟨h1.fr hx, h2.fr hx, h3.fr hx, h4, h5, fun l hl => ?_, fun t ht => ?_⟩
  · have z := h6 l hl
    rw [(hx.2.2 _ z.1.2.1 (z.1.nin (hk2 6 (by decide)))).1]
    exact ⟨z.1.fr hx, z.2⟩
  · have z := h7 t ht
    rw [(hx.2.2 _ z.1.2.1 (z.1.nin (hk2 9 (by decide)))).1]
    exact ⟨z.1.fr hx, z.2⟩
theorem pl_Ci.fr {A B : pl_A} {m m1 : ml_M} {xs : List Nat} (h : pl_Ci A m) (hs : pl_Sh m) (hx : pl_ex xs m m1) (h2 : 8 ∉ xs) (hk : ∀ a ∈ xs, a ≤ 60 ∨ (ml_K m a).1 ≠ 8) (e1 : pl_N B 1 = pl_N A 1) (e4 : pl_N B 4 = pl_N A 4) (c0 : pl_N B 0 0 0 = pl_N A 0 0 0) (c3 : pl_N B 0 3 0 = pl_N A 0 3 0) : pl_Ci B m1 := by
  have hn := hs.2.2
  unfold pl_Ci
  rw [e4, c3, pl_own_eq e1 e4 c0, (hx.2.2 8 (by omega) h2).2]
  refine ⟨fun i hi => ?_, h.2⟩
  have z := h.1 i hi
  rw [(hx.2.2 _ z.1.2.1 (z.1.nin hk)).1]
  exact ⟨z.1.fr hx, z.2⟩
theorem pl_Cn.fr {A B : pl_A} {m m1 : ml_M} {xs : List Nat} (h : pl_Cn A m) (hs : pl_Sh m) (hx : pl_ex xs m m1) (h9 : 9 ∉ xs) (h10 : 10 ∉ xs) (hk : ∀ k ∈ [5, 0], ∀ a ∈ xs, a ≤ 60 ∨ (ml_K m a).1 ≠ k) (e5 : pl_N B 5 = pl_N A 5) (e6 : pl_N B 6 = pl_N A 6) (c4 : pl_N B 0 4 0 = pl_N A 0 4 0) (c5 : pl_N B 0 5 0 = pl_N A 0 5 0) : pl_Cn B m1 := by
  have hn := hs.2.2
  unfold pl_Cn
  rw [e5, e6, c4, c5, (hx.2.2 9 (by omega) h9).2, (hx.2.2 10 (by omega) h10).2]
  refine ⟨fun i hi => ?_, fun i hi => ?_⟩
  · have z := h.1 i hi
    rw [(hx.2.2 _ z.1.2.1 (z.1.nin (hk 5 (by decide)))).1]
    exact ⟨z.1.fr hx, z.2⟩
  · have z := h.2 i hi
    rw [(hx.2.2 _ z.1.2.1 (z.1.nin (hk 0 (by decide)))).1]
    exact ⟨z.1.fr hx, z.2⟩
theorem pl_Ck.fr {A B : pl_A} {m m1 : ml_M} {xs : List Nat} (h : pl_Ck A m) (hs : pl_Sh m) (hx : pl_ex xs m m1) (h11 : 11 ∉ xs) (hr : ∀ c, c < pl_N A 0 6 0 → ∀ r, r < 6 → ml_R m1 2 r ≠ ml_R m (ml_R m 11 c) 2) (hk : ∀ a ∈ xs, a ≤ 60 ∨ (ml_K m a).1 ≠ 2) (hm : ∀ c, c < pl_N A 0 6 0 → ml_R m (ml_R m 11 c) 2 ∉ xs) (e7 : pl_N B 7 = pl_N A 7) (c6 : pl_N B 0 6 0 = pl_N A 0 6 0) (v : pl_V B 2 = pl_V A 2) : pl_Ck B m1 := by
  have hn := hs.2.2
  unfold pl_Ck
  rw [e7, c6, v, (hx.2.2 11 (by omega) h11).2]
  intro c hc
  have z := h c hc
  have z2 := hx.2.2 _ z.1.2.1 (z.1.nin hk)
  rw [z2.1, z2.2, (hx.2.2 _ z.2.2.2.1.2.1 (hm c hc)).1]
  exact ⟨z.1.fr hx, z.2.1, z.2.2.1, z.2.2.2.1.fr hx, hr c hc, z.2.2.2.2.2⟩
theorem pl_Ck.fr2 {A B : pl_A} {m m1 : ml_M} {xs : List Nat} (h : pl_Ck A m) (hs : pl_Sh m) (hx : pl_ex xs m m1) (h11 : 11 ∉ xs) (h2 : 2 ∉ xs) (hk : ∀ a ∈ xs, a ≤ 60 ∨ ((ml_K m a).1 ≠ 2 ∧ (ml_K m a).1 ≠ 20)) (e7 : pl_N B 7 = pl_N A 7) (c6 : pl_N B 0 6 0 = pl_N A 0 6 0) (v : pl_V B 2 = pl_V A 2) : pl_Ck B m1 := by
  have hn := hs.2.2
  refine h.fr hs hx h11 (fun c hc r hr => ?_) (fun a ha => ?_) (fun c hc => ?_) e7 c6 v
  · rw [(hx.2.2 2 (by omega) h2).2]
    exact (h c hc).2.2.2.2.1 r hr
  · rcases hk a ha with h1 | h1
    · exact Or.inl h1
    · exact Or.inr h1.1
  · refine (h c hc).2.2.2.1.nin fun a ha => ?_
    rcases hk a ha with h1 | h1
    · exact Or.inl h1
    · exact Or.inr h1.2
theorem pl_S_eq {A B : pl_A} (e1 : pl_N B 1 = pl_N A 1) (e3 : pl_N B 3 = pl_N A 3) (e4 : pl_N B 4 = pl_N A 4) (c0 : pl_N B 0 0 0 = pl_N A 0 0 0) (c1 : pl_N B 0 1 0 = pl_N A 0 1 0) (c2 : pl_N B 0 2 0 = pl_N A 0 2 0) (c3 : pl_N B 0 3 0 = pl_N A 0 3 0) : pl_S B = pl_S A ∧ pl_moved B = pl_moved A ∧ pl_cov B = pl_cov A := by
  have hc : pl_cov B = pl_cov A := by funext s; unfold pl_cov; rw [pl_own_eq e1 e4 c0, c3]
  have hm : pl_moved B = pl_moved A := by funext w; unfold pl_moved; rw [e4, pl_may_eq e1 e4, c3]
  have hg : pl_good B = pl_good A := by funext w; unfold pl_good; rw [e1, e3, c2, hc]
  exact ⟨by unfold pl_S; rw [c0, c1, hg], hm, hc⟩
theorem pl_Cs.fr {A B : pl_A} {m m1 : ml_M} {xs : List Nat} (h : pl_Cs A m) (hs : pl_Sh m) (hh : pl_cl m (ml_R m 1 2) (1, 0)) (hx : pl_ex xs m m1) (hr : ml_R m1 1 2 = ml_R m 1 2) (h12 : ∀ a ∈ [12, 13, 14, 15, 17, 18, 19], a ∉ xs) (hk : ∀ a ∈ xs, (ml_K m a).1 ≠ 1)
    (e1 : pl_N B 1 = pl_N A 1) (e3 : pl_N B 3 = pl_N A 3) (e4 : pl_N B 4 = pl_N A 4) (c0 : pl_N B 0 0 0 = pl_N A 0 0 0) (c1 : pl_N B 0 1 0 = pl_N A 0 1 0) (c2 : pl_N B 0 2 0 = pl_N A 0 2 0) (c3 : pl_N B 0 3 0 = pl_N A 0 3 0) : pl_Cs B m1 := by
  have hn := hs.2.2
  obtain ⟨q1, q2, q3⟩ := pl_S_eq e1 e3 e4 c0 c1 c2 c3
  have q4 : pl_best B = pl_best A := by unfold pl_best; rw [q1, q2]
  have q5 : pl_of B = pl_of A := by funext n; unfold pl_of; rw [q1, q2]
  have z1 := hx.2.2 _ hh.2.1 (hh.nin hk)
  have z : ∀ a ∈ [12, 13, 14, 15, 17, 18, 19], ml_I m1 a = ml_I m a ∧ ml_R m1 a = ml_R m a := fun a ha => hx.2.2 a (by simp at ha; omega) (h12 a ha)
  unfold pl_Cs
  rw [(z 12 (by decide)).1, (z 12 (by decide)).2, (z 13 (by decide)).1, (z 14 (by decide)).1, (z 15 (by decide)).1, (z 17 (by decide)).1, (z 18 (by decide)).1, (z 19 (by decide)).1, hr, z1.2, q3, q4, q5, c0, c1, e1]
  exact h
theorem pl_G_eq {A B : pl_A} (e6 : pl_N B 6 = pl_N A 6) (c5 : pl_N B 0 5 0 = pl_N A 0 5 0) : pl_jn B = pl_jn A ∧ pl_G B = pl_G A ∧ pl_fr B = pl_fr A := by
  have hj : pl_jn B = pl_jn A := by funext i j; unfold pl_jn; rw [e6]
  have hG : ∀ d, pl_G B d = pl_G A d := by
    intro d
    induction d with
    | zero => rfl
    | succ d ih => funext set js; unfold pl_G; rw [ih, hj, c5]
  refine ⟨hj, funext hG, funext fun d => ?_⟩
  induction d with
  | zero => rfl
  | succ d ih => funext set js; unfold pl_fr; rw [ih, hj, c5, hG, hG]
theorem pl_Cy.fr {A B : pl_A} {m m1 : ml_M} {xs : List Nat} (h : pl_Cy A m) (hs : pl_Sh m) (hx : pl_ex xs m m1) (h21 : 21 ∉ xs) (h22 : 22 ∉ xs ∧ 31 ∉ xs) (e6 : pl_N B 6 = pl_N A 6) (c5 : pl_N B 0 5 0 = pl_N A 0 5 0) : pl_Cy B m1 := by
  have hn := hs.2.2
  obtain ⟨-, q2, q3⟩ := pl_G_eq e6 c5
  unfold pl_Cy
  rw [(hx.2.2 21 (by omega) h21).1, (hx.2.2 22 (by omega) h22.1).1, (hx.2.2 31 (by omega) h22.2).1, q2, q3, c5]
  exact h
theorem pl_mods_K {m : ml_M} (hs : pl_Sh m) : ∀ a ∈ pl_mods, (ml_K m a).1 = 11 ∨ (ml_K m a).1 = 20 ∨ (ml_K m a).1 = 21 ∨ (ml_K m a).1 = 22 := by
  intro a ha
  have h0 : ∀ a ∈ pl_mods, ∃ q ∈ pl_kt, q.1 = a ∧ (q.2.1 = 11 ∨ q.2.1 = 20 ∨ q.2.1 = 21 ∨ q.2.1 = 22) := by decide
  obtain ⟨q, hq, h1, h2⟩ := h0 a ha
  rw [← h1, hs.1 q hq]
  exact h2
theorem pl_mods_le : ∀ a ∈ pl_mods, a ≤ 60 := by decide
theorem pl_mo.c {A : pl_A} {m m1 : ml_M} (hs : pl_Sh m) (h : pl_mo m m1) (hM : pl_C A m) : pl_C A m1 := by
  have hx := h.ex
  obtain ⟨h1, h2, h3, h4, h5, h6, h7, h8, h9⟩ := hM
  have hr : ml_R m1 = ml_R m := h.2.2.2.1
  have hk := pl_mods_K hs
  have hl : ∀ k a, a ∈ pl_mods → a ≤ 60 ∨ (ml_K m a).1 ≠ k := fun k a ha => Or.inl (pl_mods_le a ha)
  have hne : ∀ k, k ≠ 11 → k ≠ 20 → k ≠ 21 → k ≠ 22 → ∀ a ∈ pl_mods, (ml_K m a).1 ≠ k := fun k _ _ _ _ a ha => by have := hk a ha; omega
  refine ⟨?_, h2.fr hs hx (by decide) (hl _) rfl rfl, h3.fr hs hx (by decide) (hl _) rfl rfl, h4.fr hx (by rw [hr]) ?_ (fun k _ => hl k) rfl rfl rfl rfl rfl rfl, h5.fr hs hx (by decide) (hl _) rfl rfl rfl rfl, h6.fr hs hx (by decide) (by decide) (fun k _ => hl k) rfl rfl rfl rfl,
    h7.fr2 hs hx (by decide) (by decide) (fun a ha => Or.inl (pl_mods_le a ha)) rfl rfl rfl, h8.fr hs h4.1 hx (by rw [hr]) (by decide) (hne 1 (by decide) (by decide) (by decide) (by decide)) rfl rfl rfl rfl rfl rfl rfl, h9.fr hs hx (by decide) (by decide) rfl rfl⟩
  · unfold pl_Cb
    rw [(h.2.2.2.2 1 (by decide)).1, (h.2.2.2.2 1 (by decide)).2, (h.2.2.2.2 32 (by decide)).1]
    exact h1
  · intro k hk
    simp only [List.mem_cons, List.not_mem_nil, or_false] at hk
    exact hne k (by omega) (by omega) (by omega) (by omega)

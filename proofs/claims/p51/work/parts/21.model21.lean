/-! the plain functions of the reference, and of calls that this law does not make (as in whole) -/
def fX10_readingsBy (l0 : Nat) (l1 : Nat) (l2 : Nat) (m : ml_M) : Option (Int32 × ml_M) :=
    ml_b1 (fJ7_fill_53178 l2 (0 : Int32) m) fun m2892 =>
    if ml_in m2892 l2 20 (0 : Int32) then
    ml_let (ml_sI m2892 l2 (0 : Int32).toNatClampNeg (1 : Int32)) fun m2894 =>
    fX10_readingsBy_14 ml_fu l0 l1 l2 (0 : Int32) (0 : Int32) m2894
    else none
def fX10_readings (l0 : Nat) (m : ml_M) : Option (Int32 × ml_M) :=
    if (ml_K m l0).1 = 10 then
    ml_b2 (fX10_trunksForLines l0 m) fun a2898 m2899 =>
    if (ml_K m2899 l0).1 = 10 then
    ml_let (ml_R m2899 l0 2) fun a2901 =>
    if (ml_K m2899 a2901).1 = 1 then
    if ml_len ((1 : Int32) <<< ((ml_I m2899 a2901 3) &&& 31)) then
    ml_let (ml_n m2899 + 1) fun a2904 =>
    ml_let (ml_al m2899 20 ((1 : Int32) <<< ((ml_I m2899 a2901 3) &&& 31)).toNatClampNeg ((1 : Int32) <<< ((ml_I m2899 a2901 3) &&& 31)).toNatClampNeg) fun m2905 =>
    if (ml_K m2905 l0).1 = 10 then
    ml_b2 (fX10_readingsBy l0 a2898 a2904 m2905) fun r2910 m2911 =>
    some (r2910, m2911)
    else none
    else none
    else none
    else none
    else none
def fX11_lineFits_104 (k25 : Nat → Int32 → Int32 → Int32 → Int32 → ml_M → Option Int32) (l0 : Nat) (l1 : Int32) (l2 : Int32) (l4 : Int32) (t0 : Int32) (m : ml_M) : Option Int32 :=
    k25 l0 l1 l2 t0 (l4 + (1 : Int32)) m
def fX11_lineFits_99 (k25 : Nat → Int32 → Int32 → Int32 → Int32 → ml_M → Option Int32) (l0 : Nat) (l1 : Int32) (l2 : Int32) (l4 : Int32) (m : ml_M) : Option Int32 :=
    fX11_lineFits_104 k25 l0 l1 l2 l4 (1 : Int32) m
def fX11_lineFits_25 : Nat → Nat → Int32 → Int32 → Int32 → Int32 → ml_M → Option Int32
  | 0, _, _, _, _, _, _ => none
  | fu + 1, l0, l1, l2, l3, l4, m =>
    if (ml_K m l0).1 = 11 then
    if (ml_I m l0 24) ≤ l4 then
    if l3 = 0 ∨ l3 = 1 then some l3 else none
    else
    if l3 = 0 then
    if l3 = 0 ∨ l3 = 1 then some l3 else none
    else
    ml_b1 (fX11_trunkOf l0 l4 m) fun r2916 =>
    if r2916 = l2 then
    ml_let (ml_R m l0 35) fun a2917 =>
    if ml_in m a2917 20 (((3 : Int32) * l1) + (1 : Int32)) then
    ml_let (ml_R m l0 35) fun a2919 =>
    if ml_in m a2919 20 (((3 : Int32) * l1) + (2 : Int32)) then
    ml_let (ml_R m l0 25) fun a2921 =>
    if ml_in m a2921 20 (((7 : Int32) * l4) + (1 : Int32)) then
    ml_let (ml_R m l0 25) fun a2923 =>
    if ml_in m a2923 20 (((7 : Int32) * l4) + (2 : Int32)) then
    ml_b1 (fX11_meetYears l0 (ml_I m a2917 (((3 : Int32) * l1) + (1 : Int32)).toNatClampNeg) (ml_I m a2919 (((3 : Int32) * l1) + (2 : Int32)).toNatClampNeg) (ml_I m a2921 (((7 : Int32) * l4) + (1 : Int32)).toNatClampNeg) (ml_I m a2923 (((7 : Int32) * l4) + (2 : Int32)).toNatClampNeg) m) fun r2926 =>
    if r2926 = 0 then
    fX11_lineFits_104 (fX11_lineFits_25 fu) l0 l1 l2 l4 (0 : Int32) m
    else
    fX11_lineFits_99 (fX11_lineFits_25 fu) l0 l1 l2 l4 m
    else none
    else none
    else none
    else none
    else
    fX11_lineFits_99 (fX11_lineFits_25 fu) l0 l1 l2 l4 m
    else none
def fX11_lineFits_21 (l0 : Nat) (l1 : Int32) (l2 : Int32) (t0 : Int32) (m : ml_M) : Option Int32 :=
    fX11_lineFits_25 ml_fu l0 l1 l2 t0 (0 : Int32) m
def fX11_lineFits (l0 : Nat) (l1 : Int32) (l2 : Int32) (m : ml_M) : Option Int32 :=
    if (ml_K m l0).1 = 11 then
    ml_b1 (fX11_lyingMany l0 l2 m) fun r2929 =>
    ml_let (ml_R m l0 35) fun a2930 =>
    if ml_in m a2930 20 ((3 : Int32) * l1) then
    if r2929 = (ml_I m a2930 ((3 : Int32) * l1).toNatClampNeg) then
    fX11_lineFits_21 l0 l1 l2 (1 : Int32) m
    else
    fX11_lineFits_21 l0 l1 l2 (0 : Int32) m
    else none
    else none
def fX11_readingsBy_136 (k13 : Nat → Int32 → Int32 → Int32 → Int32 → ml_M → Option (Int32 × ml_M)) (k21 : Nat → Int32 → Int32 → Int32 → Int32 → Int32 → ml_M → Option (Int32 × ml_M)) (k46 : Nat → Int32 → Int32 → Int32 → Int32 → Int32 → Int32 → Int32 → ml_M → Option (Int32 × ml_M)) (l0 : Nat) (l1 : Int32) (l2 : Int32) (l3 : Int32) (l4 : Int32) (l5 : Int32) (l7 : Int32) (t0 : Int32) (t1 : Int32) (m : ml_M) : Option (Int32 × ml_M) :=
    ml_let (t1 + t0) fun x2932 =>
    k46 l0 l1 l2 l3 l4 l5 x2932 (l7 + (1 : Int32)) m
def fX11_readingsBy_102 (k13 : Nat → Int32 → Int32 → Int32 → Int32 → ml_M → Option (Int32 × ml_M)) (k21 : Nat → Int32 → Int32 → Int32 → Int32 → Int32 → ml_M → Option (Int32 × ml_M)) (k46 : Nat → Int32 → Int32 → Int32 → Int32 → Int32 → Int32 → Int32 → ml_M → Option (Int32 × ml_M)) (l0 : Nat) (l1 : Int32) (l2 : Int32) (l3 : Int32) (l4 : Int32) (l5 : Int32) (l6 : Int32) (l7 : Int32) (t0 : Int32) (m : ml_M) : Option (Int32 × ml_M) :=
    if t0 = 0 then
    fX11_readingsBy_136 k13 k21 k46 l0 l1 l2 l3 l4 l5 l7 (0 : Int32) l6 m
    else
    if (ml_K m l0).1 = 11 then
    ml_let (ml_R m l0 36) fun a2934 =>
    if ml_in m a2934 20 (((256 : Int32) * (l4 + (1 : Int32))) + (l5 ||| ((1 : Int32) <<< (l7 &&& 31)))) then
    fX11_readingsBy_136 k13 k21 k46 l0 l1 l2 l3 l4 l5 l7 (ml_I m a2934 (((256 : Int32) * (l4 + (1 : Int32))) + (l5 ||| ((1 : Int32) <<< (l7 &&& 31)))).toNatClampNeg) l6 m
    else none
    else none
def fX11_readingsBy_101 (k13 : Nat → Int32 → Int32 → Int32 → Int32 → ml_M → Option (Int32 × ml_M)) (k21 : Nat → Int32 → Int32 → Int32 → Int32 → Int32 → ml_M → Option (Int32 × ml_M)) (k46 : Nat → Int32 → Int32 → Int32 → Int32 → Int32 → Int32 → Int32 → ml_M → Option (Int32 × ml_M)) (l0 : Nat) (l1 : Int32) (l2 : Int32) (l3 : Int32) (l4 : Int32) (l5 : Int32) (l6 : Int32) (l7 : Int32) (m : ml_M) : Option (Int32 × ml_M) :=
    fX11_readingsBy_102 k13 k21 k46 l0 l1 l2 l3 l4 l5 l6 l7 (0 : Int32) m
def fX11_readingsBy_86 (k13 : Nat → Int32 → Int32 → Int32 → Int32 → ml_M → Option (Int32 × ml_M)) (k21 : Nat → Int32 → Int32 → Int32 → Int32 → Int32 → ml_M → Option (Int32 × ml_M)) (k46 : Nat → Int32 → Int32 → Int32 → Int32 → Int32 → Int32 → Int32 → ml_M → Option (Int32 × ml_M)) (l0 : Nat) (l1 : Int32) (l2 : Int32) (l3 : Int32) (l4 : Int32) (l5 : Int32) (l6 : Int32) (l7 : Int32) (m : ml_M) : Option (Int32 × ml_M) :=
    if (ml_K m l0).1 = 11 then
    ml_b1 (fX11_lineFits l0 l4 l7 m) fun r2938 =>
    if r2938 = 0 then
    fX11_readingsBy_101 k13 k21 k46 l0 l1 l2 l3 l4 l5 l6 l7 m
    else
    fX11_readingsBy_102 k13 k21 k46 l0 l1 l2 l3 l4 l5 l6 l7 (1 : Int32) m
    else none
def fX11_readingsBy_145 (k13 : Nat → Int32 → Int32 → Int32 → Int32 → ml_M → Option (Int32 × ml_M)) (k21 : Nat → Int32 → Int32 → Int32 → Int32 → Int32 → ml_M → Option (Int32 × ml_M)) (l0 : Nat) (l1 : Int32) (l2 : Int32) (l3 : Int32) (l4 : Int32) (l5 : Int32) (l6 : Int32) (m : ml_M) : Option (Int32 × ml_M) :=
    if (ml_K m l0).1 = 11 then
    ml_let (ml_R m l0 36) fun a2940 =>
    if ml_in m a2940 20 (((256 : Int32) * l4) + l5) then
    ml_let (ml_sI m a2940 (((256 : Int32) * l4) + l5).toNatClampNeg l6) fun m2942 =>
    k21 l0 l1 l2 l3 l4 (l5 + (1 : Int32)) m2942
    else none
    else none
def fX11_readingsBy_46 (k13 : Nat → Int32 → Int32 → Int32 → Int32 → ml_M → Option (Int32 × ml_M)) (k21 : Nat → Int32 → Int32 → Int32 → Int32 → Int32 → ml_M → Option (Int32 × ml_M)) : Nat → Nat → Int32 → Int32 → Int32 → Int32 → Int32 → Int32 → Int32 → ml_M → Option (Int32 × ml_M)
  | 0, _, _, _, _, _, _, _, _, _ => none
  | fu + 1, l0, l1, l2, l3, l4, l5, l6, l7, m =>
    if (ml_K m l0).1 = 11 then
    if (ml_I m l0 10) ≤ l7 then
    fX11_readingsBy_145 k13 k21 l0 l1 l2 l3 l4 l5 l6 m
    else
    if (ml_I m l0 34) ≤ l4 then
    fX11_readingsBy_145 k13 k21 l0 l1 l2 l3 l4 l5 l6 m
    else
    ml_b1 (fX11_has l5 l7 m) fun r2946 =>
    if r2946 = 0 then
    if l4 = l1 then
    if l7 = l2 then
    fX11_readingsBy_86 k13 k21 (fX11_readingsBy_46 k13 k21 fu) l0 l1 l2 l3 l4 l5 l6 l7 m
    else
    fX11_readingsBy_101 k13 k21 (fX11_readingsBy_46 k13 k21 fu) l0 l1 l2 l3 l4 l5 l6 l7 m
    else
    fX11_readingsBy_86 k13 k21 (fX11_readingsBy_46 k13 k21 fu) l0 l1 l2 l3 l4 l5 l6 l7 m
    else
    fX11_readingsBy_101 k13 k21 (fX11_readingsBy_46 k13 k21 fu) l0 l1 l2 l3 l4 l5 l6 l7 m
    else none
def fX11_readingsBy_41 (k13 : Nat → Int32 → Int32 → Int32 → Int32 → ml_M → Option (Int32 × ml_M)) (k21 : Nat → Int32 → Int32 → Int32 → Int32 → Int32 → ml_M → Option (Int32 × ml_M)) (l0 : Nat) (l1 : Int32) (l2 : Int32) (l3 : Int32) (l4 : Int32) (l5 : Int32) (t0 : Int32) (m : ml_M) : Option (Int32 × ml_M) :=
    fX11_readingsBy_46 k13 k21 ml_fu l0 l1 l2 l3 l4 l5 t0 (0 : Int32) m
def fX11_readingsBy_167 (k13 : Nat → Int32 → Int32 → Int32 → Int32 → ml_M → Option (Int32 × ml_M)) (l0 : Nat) (l1 : Int32) (l2 : Int32) (l3 : Int32) (l4 : Int32) (m : ml_M) : Option (Int32 × ml_M) :=
    k13 l0 l1 l2 l3 (l4 + (-1 : Int32)) m
def fX11_readingsBy_21 (k13 : Nat → Int32 → Int32 → Int32 → Int32 → ml_M → Option (Int32 × ml_M)) : Nat → Nat → Int32 → Int32 → Int32 → Int32 → Int32 → ml_M → Option (Int32 × ml_M)
  | 0, _, _, _, _, _, _, _ => none
  | fu + 1, l0, l1, l2, l3, l4, l5, m =>
    if l3 ≤ l5 then
    fX11_readingsBy_167 k13 l0 l1 l2 l3 l4 m
    else
    if (ml_K m l0).1 = 11 then
    if l4 = (ml_I m l0 34) then
    fX11_readingsBy_41 k13 (fX11_readingsBy_21 k13 fu) l0 l1 l2 l3 l4 l5 (1 : Int32) m
    else
    fX11_readingsBy_41 k13 (fX11_readingsBy_21 k13 fu) l0 l1 l2 l3 l4 l5 (0 : Int32) m
    else none
def fX11_readingsBy_173 (l0 : Nat) (m : ml_M) : Option (Int32 × ml_M) :=
    if (ml_K m l0).1 = 11 then
    ml_let (ml_R m l0 36) fun a2949 =>
    if ml_in m a2949 20 (0 : Int32) then
    some ((ml_I m a2949 (0 : Int32).toNatClampNeg), m)
    else none
    else none
def fX11_readingsBy_13 : Nat → Nat → Int32 → Int32 → Int32 → Int32 → ml_M → Option (Int32 × ml_M)
  | 0, _, _, _, _, _, _ => none
  | fu + 1, l0, l1, l2, l3, l4, m =>
    if l4 < 0 then
    fX11_readingsBy_173 l0 m
    else
    fX11_readingsBy_21 (fX11_readingsBy_13 fu) ml_fu l0 l1 l2 l3 l4 (0 : Int32) m
def fX11_readingsBy (l0 : Nat) (l1 : Int32) (l2 : Int32) (m : ml_M) : Option (Int32 × ml_M) :=
    if (ml_K m l0).1 = 11 then
    ml_let ((1 : Int32) <<< ((ml_I m l0 10) &&& 31)) fun x2952 =>
    ml_let (ml_I m l0 34) fun x2953 =>
    fX11_readingsBy_13 ml_fu l0 l1 l2 x2952 x2953 m
    else none
def fX11_readings (l0 : Nat) (m : ml_M) : Option (Int32 × ml_M) :=
    if (ml_K m l0).1 = 11 then
    ml_b2 (fX11_readingsBy l0 (-9 : Int32) (-9 : Int32) m) fun r2956 m2957 =>
    some (r2956, m2957)
    else none
def fX10_lineOf_84 (k44 : Nat → Int32 → Nat → Nat → Int32 → Int32 → Int32 → ml_M → Option (Int32 × ml_M)) (l0 : Nat) (l1 : Int32) (l2 : Nat) (l3 : Nat) (l4 : Int32) (l5 : Int32) (l6 : Int32) (m : ml_M) : Option (Int32 × ml_M) :=
    k44 l0 l1 l2 l3 l4 l5 (l6 + (1 : Int32)) m
def fX10_lineOf_44 : Nat → Nat → Int32 → Nat → Nat → Int32 → Int32 → Int32 → ml_M → Option (Int32 × ml_M)
  | 0, _, _, _, _, _, _, _, _ => none
  | fu + 1, l0, l1, l2, l3, l4, l5, l6, m =>
    if (ml_K m l0).1 = 10 then
    ml_let (ml_R m l0 2) fun a2959 =>
    if (ml_K m a2959).1 = 1 then
    if (ml_I m a2959 3) ≤ l6 then
    some (l5, m)
    else
    if ml_in m l2 20 l1 then
    ml_let (ml_sI m l2 l1.toNatClampNeg (l4 &&& ((1 : Int32) <<< (l6 &&& 31)))) fun m2962 =>
    ml_b2 (fX10_readingsBy l0 l2 l3 m2962) fun r2965 m2966 =>
    if r2965 ≤ 0 then
    fX10_lineOf_84 (fX10_lineOf_44 fu) l0 l1 l2 l3 l4 l5 l6 m2966
    else
    ml_let (l5 ||| ((1 : Int32) <<< (l6 &&& 31))) fun x2967 =>
    fX10_lineOf_84 (fX10_lineOf_44 fu) l0 l1 l2 l3 l4 x2967 l6 m2966
    else none
    else none
    else none
def fX10_lineOf (l0 : Nat) (l1 : Int32) (m : ml_M) : Option (Int32 × ml_M) :=
    if (ml_K m l0).1 = 10 then
    ml_b1 (fX10_within l1 (0 : Int32) ((ml_I m l0 7) - (1 : Int32)) m) fun r2970 =>
    if r2970 = 0 then
    some ((-1 : Int32), m)
    else
    ml_b2 (fX10_trunksForLines l0 m) fun a2972 m2973 =>
    if (ml_K m2973 l0).1 = 10 then
    ml_let (ml_R m2973 l0 2) fun a2975 =>
    if (ml_K m2973 a2975).1 = 1 then
    if ml_len ((1 : Int32) <<< ((ml_I m2973 a2975 3) &&& 31)) then
    ml_let (ml_n m2973 + 1) fun a2978 =>
    ml_let (ml_al m2973 20 ((1 : Int32) <<< ((ml_I m2973 a2975 3) &&& 31)).toNatClampNeg ((1 : Int32) <<< ((ml_I m2973 a2975 3) &&& 31)).toNatClampNeg) fun m2979 =>
    if ml_in m2979 a2972 20 l1 then
    ml_let (ml_I m2979 a2972 l1.toNatClampNeg) fun x2983 =>
    fX10_lineOf_44 ml_fu l0 l1 a2972 a2978 x2983 (0 : Int32) (0 : Int32) m2979
    else none
    else none
    else none
    else none
    else none
def fX11_lineOf_45 (k20 : Nat → Int32 → Int32 → Int32 → ml_M → Option (Int32 × ml_M)) (l0 : Nat) (l1 : Int32) (l3 : Int32) (t0 : Int32) (t1 : Int32) (m : ml_M) : Option (Int32 × ml_M) :=
    ml_let (t1 ||| t0) fun x2984 =>
    k20 l0 l1 x2984 (l3 + (1 : Int32)) m
def fX11_lineOf_20 : Nat → Nat → Int32 → Int32 → Int32 → ml_M → Option (Int32 × ml_M)
  | 0, _, _, _, _, _ => none
  | fu + 1, l0, l1, l2, l3, m =>
    if (ml_K m l0).1 = 11 then
    if (ml_I m l0 10) ≤ l3 then
    some (l2, m)
    else
    ml_b2 (fX11_readingsBy l0 l1 l3 m) fun r2987 m2988 =>
    if r2987 ≤ 0 then
    fX11_lineOf_45 (fX11_lineOf_20 fu) l0 l1 l3 (0 : Int32) l2 m2988
    else
    fX11_lineOf_45 (fX11_lineOf_20 fu) l0 l1 l3 ((1 : Int32) <<< (l3 &&& 31)) l2 m2988
    else none
def fX11_lineOf (l0 : Nat) (l1 : Int32) (m : ml_M) : Option (Int32 × ml_M) :=
    if (ml_K m l0).1 = 11 then
    ml_b1 (fX11_in l1 (0 : Int32) ((ml_I m l0 34) - (1 : Int32)) m) fun r2991 =>
    if r2991 = 0 then
    some ((-1 : Int32), m)
    else
    fX11_lineOf_20 ml_fu l0 l1 (0 : Int32) (0 : Int32) m
    else none
def fX11_bit (l0 : Nat) (l1 : Int32) (l2 : Int32) (l3 : Int32) (l4 : Int32) (m : ml_M) : Option (Int32 × ml_M) :=
    ml_b1 (fX11_in l1 (1 : Int32) (9 : Int32) m) fun r3030 =>
    if r3030 = 0 then
    some ((-1 : Int32), m)
    else
    ml_b1 (fX11_in l2 (0 : Int32) (9 : Int32) m) fun r3032 =>
    if r3032 = 0 then
    some ((-1 : Int32), m)
    else
    ml_b1 (fX11_in l3 (0 : Int32) (999 : Int32) m) fun r3034 =>
    if r3034 = 0 then
    some ((-1 : Int32), m)
    else
    ml_b1 (fX11_in l4 (0 : Int32) (999 : Int32) m) fun r3036 =>
    if r3036 = 0 then
    some ((-1 : Int32), m)
    else
    if (ml_K m l0).1 = 11 then
    if (ml_I m l0 37) = (10 : Int32) then
    some ((-2 : Int32), m)
    else
    ml_let (ml_R m l0 38) fun a3038 =>
    if ml_in m a3038 20 ((4 : Int32) * (ml_I m l0 37)) then
    ml_let (ml_sI m a3038 ((4 : Int32) * (ml_I m l0 37)).toNatClampNeg l1) fun m3040 =>
    ml_let (ml_R m3040 l0 38) fun a3042 =>
    if ml_in m3040 a3042 20 (((4 : Int32) * (ml_I m3040 l0 37)) + (1 : Int32)) then
    ml_let (ml_sI m3040 a3042 (((4 : Int32) * (ml_I m3040 l0 37)) + (1 : Int32)).toNatClampNeg l2) fun m3044 =>
    ml_let (ml_R m3044 l0 38) fun a3046 =>
    if ml_in m3044 a3046 20 (((4 : Int32) * (ml_I m3044 l0 37)) + (2 : Int32)) then
    ml_let (ml_sI m3044 a3046 (((4 : Int32) * (ml_I m3044 l0 37)) + (2 : Int32)).toNatClampNeg l3) fun m3048 =>
    ml_let (ml_R m3048 l0 38) fun a3050 =>
    if ml_in m3048 a3050 20 (((4 : Int32) * (ml_I m3048 l0 37)) + (3 : Int32)) then
    ml_let (ml_sI m3048 a3050 (((4 : Int32) * (ml_I m3048 l0 37)) + (3 : Int32)).toNatClampNeg l4) fun m3052 =>
    ml_let (ml_sI m3052 l0 37 ((ml_I m3052 l0 37) + (1 : Int32))) fun m3054 =>
    some (((ml_I m3054 l0 37) - (1 : Int32)), m3054)
    else none
    else none
    else none
    else none
    else none
def fX11_doesJoin (l0 : Nat) (l1 : Int32) (l2 : Int32) (m : ml_M) : Option Int32 :=
    if (ml_K m l0).1 = 11 then
    ml_let (ml_R m l0 38) fun a3073 =>
    if ml_in m a3073 20 (((4 : Int32) * l1) + (3 : Int32)) then
    ml_let (ml_R m l0 38) fun a3075 =>
    if ml_in m a3075 20 (((4 : Int32) * l2) + (2 : Int32)) then
    if ((ml_I m a3073 (((4 : Int32) * l1) + (3 : Int32)).toNatClampNeg) + (ml_I m a3075 (((4 : Int32) * l2) + (2 : Int32)).toNatClampNeg)) = (1000 : Int32) then
    ml_let (ml_R m l0 38) fun a3077 =>
    if ml_in m a3077 20 ((4 : Int32) * l1) then
    ml_let (ml_R m l0 38) fun a3079 =>
    if ml_in m a3079 20 ((4 : Int32) * l2) then
    if (ml_I m a3077 ((4 : Int32) * l1).toNatClampNeg) = (ml_I m a3079 ((4 : Int32) * l2).toNatClampNeg) then
    ml_let (ml_R m l0 38) fun a3081 =>
    if ml_in m a3081 20 (((4 : Int32) * l1) + (1 : Int32)) then
    ml_let (ml_R m l0 38) fun a3083 =>
    if ml_in m a3083 20 (((4 : Int32) * l2) + (1 : Int32)) then
    if (ml_I m a3081 (((4 : Int32) * l1) + (1 : Int32)).toNatClampNeg) = (ml_I m a3083 (((4 : Int32) * l2) + (1 : Int32)).toNatClampNeg) then
    some (1 : Int32)
    else
    some (0 : Int32)
    else none
    else none
    else
    some (0 : Int32)
    else none
    else none
    else
    some (0 : Int32)
    else none
    else none
    else none
def fX11_joins (l0 : Nat) (l1 : Int32) (l2 : Int32) (m : ml_M) : Option Int32 :=
    if (ml_K m l0).1 = 11 then
    ml_b1 (fX11_in l1 (0 : Int32) ((ml_I m l0 37) - (1 : Int32)) m) fun r3087 =>
    if r3087 = 0 then
    some (-1 : Int32)
    else
    ml_b1 (fX11_in l2 (0 : Int32) ((ml_I m l0 37) - (1 : Int32)) m) fun r3089 =>
    if r3089 = 0 then
    some (-1 : Int32)
    else
    if l1 = l2 then
    some (-1 : Int32)
    else
    ml_b1 (fX11_doesJoin l0 l1 l2 m) fun r3091 =>
    if r3091 = 0 then
    some (0 : Int32)
    else
    some (1 : Int32)
    else none
def fX11_addGap_64 (t0 : Int32) (t1 : Int32) (t2 : Int32) (t3 : Nat) (m : ml_M) : Option ml_M :=
    if ml_in m t3 20 t2 then
    ml_let (ml_sI m t3 t2.toNatClampNeg (t1 + t0)) fun m3252 =>
    some m3252
    else none
def fX11_addGap_36 (l0 : Nat) (l1 : Int32) (l2 : Int32) (l4 : Int32) (m : ml_M) : Option ml_M :=
    if (ml_K m l0).1 = 11 then
    ml_let (ml_R m l0 40) fun a3255 =>
    if ml_in m a3255 20 l1 then
    ml_let (ml_R m l0 39) fun a3257 =>
    if ml_in m a3257 20 l1 then
    if l4 = (ml_I m a3257 l1.toNatClampNeg) then
    ml_let (ml_R m l0 40) fun a3259 =>
    if ml_in m a3259 20 l2 then
    fX11_addGap_64 (ml_I m a3259 l2.toNatClampNeg) (ml_I m a3255 l1.toNatClampNeg) l1 a3255 m
    else none
    else
    fX11_addGap_64 (0 : Int32) (ml_I m a3255 l1.toNatClampNeg) l1 a3255 m
    else none
    else none
    else none
def fX11_addGap (l0 : Nat) (l1 : Int32) (l2 : Int32) (l3 : Int32) (m : ml_M) : Option ml_M :=
    if (ml_K m l0).1 = 11 then
    ml_let (ml_R m l0 39) fun a3262 =>
    if ml_in m a3262 20 l2 then
    ml_let ((ml_I m a3262 l2.toNatClampNeg) + l3) fun x3264 =>
    ml_let (ml_R m l0 39) fun a3265 =>
    if ml_in m a3265 20 l1 then
    if (ml_I m a3265 l1.toNatClampNeg) ≤ x3264 then
    fX11_addGap_36 l0 l1 l2 x3264 m
    else
    ml_let (ml_R m l0 39) fun a3267 =>
    if ml_in m a3267 20 l1 then
    ml_let (ml_sI m a3267 l1.toNatClampNeg x3264) fun m3269 =>
    ml_let (ml_R m3269 l0 40) fun a3271 =>
    if ml_in m3269 a3271 20 l1 then
    ml_let (ml_sI m3269 a3271 l1.toNatClampNeg (0 : Int32)) fun m3273 =>
    fX11_addGap_36 l0 l1 l2 x3264 m3273
    else none
    else none
    else none
    else none
    else none
def fX11_layGaps_130 (k11 : Nat → Int32 → Int32 → ml_M → Option ml_M) (k17 : Nat → Int32 → Int32 → Int32 → ml_M → Option ml_M) (k71 : Nat → Int32 → Int32 → Int32 → Int32 → Int32 → ml_M → Option ml_M) (l0 : Nat) (l1 : Int32) (l2 : Int32) (l3 : Int32) (l4 : Int32) (l5 : Int32) (m : ml_M) : Option ml_M :=
    k71 l0 l1 l2 l3 l4 (l5 + (1 : Int32)) m
def fX11_layGaps_127 (k11 : Nat → Int32 → Int32 → ml_M → Option ml_M) (k17 : Nat → Int32 → Int32 → Int32 → ml_M → Option ml_M) (k71 : Nat → Int32 → Int32 → Int32 → Int32 → Int32 → ml_M → Option ml_M) (l0 : Nat) (l1 : Int32) (l2 : Int32) (l3 : Int32) (l4 : Int32) (l5 : Int32) (t0 : Int32) (t1 : Int32) (t2 : Int32) (t3 : Nat) (m : ml_M) : Option ml_M :=
    if (ml_K m t3).1 = 11 then
    ml_b1 (fX11_addGap t3 t2 t1 t0 m) fun m3277 =>
    fX11_layGaps_130 k11 k17 k71 l0 l1 l2 l3 l4 l5 m3277
    else none
def fX11_layGaps_136 (k11 : Nat → Int32 → Int32 → ml_M → Option ml_M) (k17 : Nat → Int32 → Int32 → Int32 → ml_M → Option ml_M) (l0 : Nat) (l1 : Int32) (l2 : Int32) (l3 : Int32) (m : ml_M) : Option ml_M :=
    k17 l0 l1 l2 (l3 + (1 : Int32)) m
def fX11_layGaps_71 (k11 : Nat → Int32 → Int32 → ml_M → Option ml_M) (k17 : Nat → Int32 → Int32 → Int32 → ml_M → Option ml_M) : Nat → Nat → Int32 → Int32 → Int32 → Int32 → Int32 → ml_M → Option ml_M
  | 0, _, _, _, _, _, _, _ => none
  | fu + 1, l0, l1, l2, l3, l4, l5, m =>
    if (ml_K m l0).1 = 11 then
    if (ml_I m l0 37) ≤ l5 then
    fX11_layGaps_136 k11 k17 l0 l1 l2 l3 m
    else
    ml_b1 (fX11_has l2 l3 m) fun r3280 =>
    if r3280 = 0 then
    fX11_layGaps_136 k11 k17 l0 l1 l2 l3 m
    else
    ml_b1 (fX11_has l2 l5 m) fun r3282 =>
    if r3282 = 0 then
    ml_b1 (fX11_doesJoin l0 l3 l5 m) fun r3284 =>
    if r3284 = 0 then
    fX11_layGaps_127 k11 k17 (fX11_layGaps_71 k11 k17 fu) l0 l1 l2 l3 l4 l5 (1 : Int32) (((10 : Int32) * (l2 ||| ((1 : Int32) <<< (l5 &&& 31)))) + l5) l4 l0 m
    else
    fX11_layGaps_127 k11 k17 (fX11_layGaps_71 k11 k17 fu) l0 l1 l2 l3 l4 l5 (0 : Int32) (((10 : Int32) * (l2 ||| ((1 : Int32) <<< (l5 &&& 31)))) + l5) l4 l0 m
    else
    fX11_layGaps_130 k11 k17 (fX11_layGaps_71 k11 k17 fu) l0 l1 l2 l3 l4 l5 m
    else none
def fX11_layGaps_67 (k11 : Nat → Int32 → Int32 → ml_M → Option ml_M) (k17 : Nat → Int32 → Int32 → Int32 → ml_M → Option ml_M) (l0 : Nat) (l1 : Int32) (l2 : Int32) (l3 : Int32) (l4 : Int32) (t0 : Int32) (t1 : Int32) (t2 : Nat) (m : ml_M) : Option ml_M :=
    if ml_in m t2 20 t1 then
    ml_let (ml_sI m t2 t1.toNatClampNeg t0) fun m3286 =>
    fX11_layGaps_71 k11 k17 ml_fu l0 l1 l2 l3 l4 (0 : Int32) m3286
    else none
def fX11_layGaps_50 (k11 : Nat → Int32 → Int32 → ml_M → Option ml_M) (k17 : Nat → Int32 → Int32 → Int32 → ml_M → Option ml_M) (l0 : Nat) (l1 : Int32) (l2 : Int32) (l3 : Int32) (l4 : Int32) (t0 : Int32) (t1 : Int32) (t2 : Nat) (m : ml_M) : Option ml_M :=
    if ml_in m t2 20 t1 then
    ml_let (ml_sI m t2 t1.toNatClampNeg t0) fun m3289 =>
    if (ml_K m3289 l0).1 = 11 then
    ml_let (ml_R m3289 l0 40) fun a3292 =>
    if l2 = l1 then
    fX11_layGaps_67 k11 k17 l0 l1 l2 l3 l4 (1 : Int32) l4 a3292 m3289
    else
    fX11_layGaps_67 k11 k17 l0 l1 l2 l3 l4 (0 : Int32) l4 a3292 m3289
    else none
    else none
def fX11_layGaps_142 (k11 : Nat → Int32 → Int32 → ml_M → Option ml_M) (l0 : Nat) (l1 : Int32) (l2 : Int32) (m : ml_M) : Option ml_M :=
    k11 l0 l1 (l2 + (-1 : Int32)) m
def fX11_layGaps_17 (k11 : Nat → Int32 → Int32 → ml_M → Option ml_M) : Nat → Nat → Int32 → Int32 → Int32 → ml_M → Option ml_M
  | 0, _, _, _, _, _ => none
  | fu + 1, l0, l1, l2, l3, m =>
    if (ml_K m l0).1 = 11 then
    if (ml_I m l0 37) ≤ l3 then
    fX11_layGaps_142 k11 l0 l1 l2 m
    else
    ml_let (((10 : Int32) * l2) + l3) fun x3294 =>
    ml_let (ml_R m l0 39) fun a3295 =>
    if l2 = l1 then
    fX11_layGaps_50 k11 (fX11_layGaps_17 k11 fu) l0 l1 l2 l3 x3294 (0 : Int32) x3294 a3295 m
    else
    fX11_layGaps_50 k11 (fX11_layGaps_17 k11 fu) l0 l1 l2 l3 x3294 (100 : Int32) x3294 a3295 m
    else none
def fX11_layGaps_11 : Nat → Nat → Int32 → Int32 → ml_M → Option ml_M
  | 0, _, _, _, _ => none
  | fu + 1, l0, l1, l2, m =>
    if l2 ≤ 0 then
    some m
    else
    fX11_layGaps_17 (fX11_layGaps_11 fu) ml_fu l0 l1 l2 (0 : Int32) m
def fX11_layGaps (l0 : Nat) (m : ml_M) : Option ml_M :=
    if (ml_K m l0).1 = 11 then
    ml_let (((1 : Int32) <<< ((ml_I m l0 37) &&& 31)) - (1 : Int32)) fun x3297 =>
    fX11_layGaps_11 ml_fu l0 x3297 x3297 m
    else none
def fX11_leastGaps_37 (k5 : Nat → Int32 → Int32 → ml_M → Option Int32) (l0 : Nat) (l2 : Int32) (t0 : Int32) (m : ml_M) : Option Int32 :=
    k5 l0 t0 (l2 + (1 : Int32)) m
def fX11_leastGaps_5 : Nat → Nat → Int32 → Int32 → ml_M → Option Int32
  | 0, _, _, _, _ => none
  | fu + 1, l0, l1, l2, m =>
    if (ml_K m l0).1 = 11 then
    if (ml_I m l0 37) ≤ l2 then
    some l1
    else
    ml_let (ml_R m l0 39) fun a3299 =>
    if ml_in m a3299 20 (((10 : Int32) * ((1 : Int32) <<< (l2 &&& 31))) + l2) then
    ml_let (ml_I m a3299 (((10 : Int32) * ((1 : Int32) <<< (l2 &&& 31))) + l2).toNatClampNeg) fun x3301 =>
    if l1 ≤ x3301 then
    fX11_leastGaps_37 (fX11_leastGaps_5 fu) l0 l2 l1 m
    else
    fX11_leastGaps_37 (fX11_leastGaps_5 fu) l0 l2 x3301 m
    else none
    else none
def fX11_leastGaps (l0 : Nat) (m : ml_M) : Option Int32 :=
    fX11_leastGaps_5 ml_fu l0 (100 : Int32) (0 : Int32) m
def fX11_comesNext_25 (l0 : Nat) (l1 : Int32) (l3 : Int32) (l4 : Int32) (t0 : Int32) (m : ml_M) : Option Int32 :=
    ml_b1 (fX11_has l3 l1 m) fun r3303 =>
    if r3303 = 0 then
    if (ml_K m l0).1 = 11 then
    ml_let (ml_R m l0 39) fun a3305 =>
    if ml_in m a3305 20 (((10 : Int32) * (l3 ||| ((1 : Int32) <<< (l1 &&& 31)))) + l1) then
    if ((ml_I m a3305 (((10 : Int32) * (l3 ||| ((1 : Int32) <<< (l1 &&& 31)))) + l1).toNatClampNeg) + t0) = l4 then
    some (1 : Int32)
    else
    some (0 : Int32)
    else none
    else none
    else
    some (0 : Int32)
def fX11_comesNext_20 (l0 : Nat) (l1 : Int32) (l3 : Int32) (l4 : Int32) (m : ml_M) : Option Int32 :=
    fX11_comesNext_25 l0 l1 l3 l4 (0 : Int32) m
def fX11_comesNext (l0 : Nat) (l1 : Int32) (l2 : Int32) (l3 : Int32) (l4 : Int32) (m : ml_M) : Option Int32 :=
    if l2 = (-9 : Int32) then
    fX11_comesNext_20 l0 l1 l3 l4 m
    else
    if l2 = l1 then
    fX11_comesNext_20 l0 l1 l3 l4 m
    else
    if (ml_K m l0).1 = 11 then
    ml_b1 (fX11_doesJoin l0 l2 l1 m) fun r3309 =>
    if r3309 = 0 then
    fX11_comesNext_25 l0 l1 l3 l4 (1 : Int32) m
    else
    fX11_comesNext_20 l0 l1 l3 l4 m
    else none
def fX11_sheets_106 (k50 : Nat → Int32 → Int32 → Int32 → Int32 → Int32 → Int32 → ml_M → Option (Int32 × ml_M)) (l0 : Nat) (l1 : Int32) (l3 : Int32) (l4 : Int32) (l6 : Int32) (l7 : Int32) (t0 : Int32) (t1 : Int32) (m : ml_M) : Option (Int32 × ml_M) :=
    ml_let (t1 - t0) fun x3310 =>
    if (ml_K m l0).1 = 11 then
    ml_let (ml_R m l0 5) fun a3312 =>
    if ml_in m a3312 20 (((48 : Int32) * l1) + l6) then
    ml_let (ml_sI m a3312 (((48 : Int32) * l1) + l6).toNatClampNeg l7) fun m3314 =>
    ml_let (l4 ||| ((1 : Int32) <<< (l7 &&& 31))) fun x3316 =>
    k50 l0 l1 x3310 l3 x3316 l7 (l6 + (1 : Int32)) m3314
    else none
    else none
def fX11_sheets_101 (k50 : Nat → Int32 → Int32 → Int32 → Int32 → Int32 → Int32 → ml_M → Option (Int32 × ml_M)) (l0 : Nat) (l1 : Int32) (l3 : Int32) (l4 : Int32) (l6 : Int32) (l7 : Int32) (t0 : Int32) (m : ml_M) : Option (Int32 × ml_M) :=
    fX11_sheets_106 k50 l0 l1 l3 l4 l6 l7 (0 : Int32) t0 m
def fX11_sheets_82 (k50 : Nat → Int32 → Int32 → Int32 → Int32 → Int32 → Int32 → ml_M → Option (Int32 × ml_M)) (l0 : Nat) (l1 : Int32) (l2 : Int32) (l3 : Int32) (l4 : Int32) (l5 : Int32) (l6 : Int32) (l7 : Int32) (m : ml_M) : Option (Int32 × ml_M) :=
    if l5 = (-9 : Int32) then
    fX11_sheets_101 k50 l0 l1 l3 l4 l6 l7 l2 m
    else
    if (ml_K m l0).1 = 11 then
    ml_b1 (fX11_doesJoin l0 l5 l7 m) fun r3319 =>
    if r3319 = 0 then
    fX11_sheets_106 k50 l0 l1 l3 l4 l6 l7 (1 : Int32) l2 m
    else
    fX11_sheets_101 k50 l0 l1 l3 l4 l6 l7 l2 m
    else none
def fX11_sheets_62 (k50 : Nat → Int32 → Int32 → Int32 → Int32 → Int32 → Int32 → ml_M → Option (Int32 × ml_M)) : Nat → Nat → Int32 → Int32 → Int32 → Int32 → Int32 → Int32 → Int32 → ml_M → Option (Int32 × ml_M)
  | 0, _, _, _, _, _, _, _, _, _ => none
  | fu + 1, l0, l1, l2, l3, l4, l5, l6, l7, m =>
    if (ml_K m l0).1 = 11 then
    ml_b1 (fX11_comesNext l0 l7 l5 l4 l2 m) fun r3322 =>
    if r3322 = 0 then
    (fX11_sheets_62 k50 fu) l0 l1 l2 l3 l4 l5 l6 (l7 + (1 : Int32)) m
    else
    fX11_sheets_82 k50 l0 l1 l2 l3 l4 l5 l6 l7 m
    else none
def fX11_sheets_50 : Nat → Nat → Int32 → Int32 → Int32 → Int32 → Int32 → Int32 → ml_M → Option (Int32 × ml_M)
  | 0, _, _, _, _, _, _, _, _ => none
  | fu + 1, l0, l1, l2, l3, l4, l5, l6, m =>
    if (ml_K m l0).1 = 11 then
    if (ml_I m l0 37) ≤ l6 then
    some (l3, m)
    else
    fX11_sheets_62 (fX11_sheets_50 fu) ml_fu l0 l1 l2 l3 l4 l5 l6 (0 : Int32) m
    else none
def fX11_sheets (l0 : Nat) (l1 : Int32) (m : ml_M) : Option (Int32 × ml_M) :=
    ml_b1 (fX11_isRow l1 m) fun r3325 =>
    if r3325 = 0 then
    some ((-1 : Int32), m)
    else
    if (ml_K m l0).1 = 11 then
    ml_b1 (fX11_clear l0 l1 (ml_I m l0 37) m) fun m3328 =>
    if (ml_K m3328 l0).1 = 11 then
    if (ml_I m3328 l0 37) = 0 then
    some ((0 : Int32), m3328)
    else
    ml_b1 (fX11_layGaps l0 m3328) fun m3331 =>
    if (ml_K m3331 l0).1 = 11 then
    ml_b1 (fX11_leastGaps l0 m3331) fun r3334 =>
    ml_let (r3334 + (1 : Int32)) fun x3335 =>
    fX11_sheets_50 ml_fu l0 l1 r3334 x3335 (0 : Int32) (-9 : Int32) (0 : Int32) m3331
    else none
    else none
    else none
def fX11_laid_63 (k22 : Nat → Int32 → Int32 → Int32 → ml_M → Option (Int32 × ml_M)) (l0 : Nat) (l1 : Int32) (l3 : Int32) (t0 : Int32) (t1 : Int32) (m : ml_M) : Option (Int32 × ml_M) :=
    ml_let (t1 + t0) fun x3342 =>
    k22 l0 l1 x3342 (l3 + (1 : Int32)) m
def fX11_laid_22 : Nat → Nat → Int32 → Int32 → Int32 → ml_M → Option (Int32 × ml_M)
  | 0, _, _, _, _, _ => none
  | fu + 1, l0, l1, l2, l3, m =>
    if (ml_K m l0).1 = 11 then
    if (ml_I m l0 37) ≤ l3 then
    some (l2, m)
    else
    ml_let (((10 : Int32) * ((1 : Int32) <<< (l3 &&& 31))) + l3) fun x3344 =>
    ml_let (ml_R m l0 39) fun a3345 =>
    if ml_in m a3345 20 x3344 then
    if (ml_I m a3345 x3344.toNatClampNeg) = l1 then
    ml_let (ml_R m l0 40) fun a3347 =>
    if ml_in m a3347 20 x3344 then
    fX11_laid_63 (fX11_laid_22 fu) l0 l1 l3 (ml_I m a3347 x3344.toNatClampNeg) l2 m
    else none
    else
    fX11_laid_63 (fX11_laid_22 fu) l0 l1 l3 (0 : Int32) l2 m
    else none
    else none
def fX11_laid (l0 : Nat) (m : ml_M) : Option (Int32 × ml_M) :=
    if (ml_K m l0).1 = 11 then
    if (ml_I m l0 37) = 0 then
    some ((1 : Int32), m)
    else
    ml_b1 (fX11_layGaps l0 m) fun m3351 =>
    if (ml_K m3351 l0).1 = 11 then
    ml_b1 (fX11_leastGaps l0 m3351) fun r3354 =>
    fX11_laid_22 ml_fu l0 r3354 (0 : Int32) (0 : Int32) m3351
    else none
    else none
def fX11_layTickets_52 (k7 : Nat → Int32 → Int32 → ml_M → Option (Int32 × ml_M)) (l0 : Nat) (l1 : Int32) (l2 : Int32) (m : ml_M) : Option (Int32 × ml_M) :=
    k7 l0 l1 (l2 + (1 : Int32)) m
def fX11_layTickets_58 (l0 : Nat) (m : ml_M) : Option (Int32 × ml_M) :=
    if (ml_K m l0).1 = 11 then
    some ((ml_I m l0 41), m)
    else none
def fX11_layTickets_7 : Nat → Nat → Int32 → Int32 → ml_M → Option (Int32 × ml_M)
  | 0, _, _, _, _ => none
  | fu + 1, l0, l1, l2, m =>
    if (ml_K m l0).1 = 11 then
    if (ml_I m l0 24) ≤ l2 then
    fX11_layTickets_58 l0 m
    else
    ml_b1 (fX11_kind l0 l2 m) fun r3472 =>
    if r3472 = (4 : Int32) then
    ml_b1 (fX11_has l1 l2 m) fun r3474 =>
    if r3474 = 0 then
    fX11_layTickets_52 (fX11_layTickets_7 fu) l0 l1 l2 m
    else
    ml_let (ml_R m l0 42) fun a3475 =>
    if ml_in m a3475 20 (ml_I m l0 41) then
    ml_let (ml_sI m a3475 (ml_I m l0 41).toNatClampNeg l2) fun m3477 =>
    ml_let (ml_sI m3477 l0 41 ((ml_I m3477 l0 41) + (1 : Int32))) fun m3479 =>
    fX11_layTickets_52 (fX11_layTickets_7 fu) l0 l1 l2 m3479
    else none
    else
    fX11_layTickets_52 (fX11_layTickets_7 fu) l0 l1 l2 m
    else none
def fX11_layTickets (l0 : Nat) (l1 : Int32) (m : ml_M) : Option (Int32 × ml_M) :=
    if (ml_K m l0).1 = 11 then
    ml_let (ml_sI m l0 41 (0 : Int32)) fun m3482 =>
    fX11_layTickets_7 ml_fu l0 l1 (0 : Int32) m3482
    else none
def fX11_earliest_164 (k49 : Nat → Int32 → Int32 → Int32 → Int32 → Int32 → Int32 → ml_M → Option Int32) (l0 : Nat) (l1 : Int32) (l2 : Int32) (l3 : Int32) (l4 : Int32) (l6 : Int32) (t0 : Int32) (m : ml_M) : Option Int32 :=
    k49 l0 l1 l2 l3 l4 t0 (l6 + (1 : Int32)) m
def fX11_earliest_162 (k49 : Nat → Int32 → Int32 → Int32 → Int32 → Int32 → Int32 → ml_M → Option Int32) (l0 : Nat) (l1 : Int32) (l2 : Int32) (l3 : Int32) (l4 : Int32) (l5 : Int32) (l6 : Int32) (m : ml_M) : Option Int32 :=
    fX11_earliest_164 k49 l0 l1 l2 l3 l4 l6 l5 m
def fX11_earliest_141 (k49 : Nat → Int32 → Int32 → Int32 → Int32 → Int32 → Int32 → ml_M → Option Int32) (l0 : Nat) (l1 : Int32) (l2 : Int32) (l3 : Int32) (l4 : Int32) (l5 : Int32) (l6 : Int32) (t0 : Int32) (m : ml_M) : Option Int32 :=
    if l4 < t0 then
    fX11_earliest_162 k49 l0 l1 l2 l3 l4 l5 l6 m
    else
    if l5 ≤ t0 then
    fX11_earliest_162 k49 l0 l1 l2 l3 l4 l5 l6 m
    else
    fX11_earliest_164 k49 l0 l1 l2 l3 l4 l6 t0 m
def fX11_earliest_127 (k49 : Nat → Int32 → Int32 → Int32 → Int32 → Int32 → Int32 → ml_M → Option Int32) (l0 : Nat) (l1 : Int32) (l2 : Int32) (l3 : Int32) (l4 : Int32) (l5 : Int32) (l6 : Int32) (t0 : Int32) (m : ml_M) : Option Int32 :=
    if t0 ≤ l3 then
    fX11_earliest_141 k49 l0 l1 l2 l3 l4 l5 l6 l3 m
    else
    fX11_earliest_141 k49 l0 l1 l2 l3 l4 l5 l6 t0 m
def fX11_earliest_102 (k49 : Nat → Int32 → Int32 → Int32 → Int32 → Int32 → Int32 → ml_M → Option Int32) (l0 : Nat) (l1 : Int32) (l2 : Int32) (l3 : Int32) (l4 : Int32) (l5 : Int32) (l6 : Int32) (t0 : Int32) (m : ml_M) : Option Int32 :=
    if t0 = 0 then
    fX11_earliest_127 k49 l0 l1 l2 l3 l4 l5 l6 (1000 : Int32) m
    else
    if (ml_K m l0).1 = 11 then
    ml_let (ml_R m l0 43) fun a3485 =>
    if ml_in m a3485 20 (((10 : Int32) * l1) + l6) then
    fX11_earliest_127 k49 l0 l1 l2 l3 l4 l5 l6 (ml_I m a3485 (((10 : Int32) * l1) + l6).toNatClampNeg) m
    else none
    else none
def fX11_earliest_101 (k49 : Nat → Int32 → Int32 → Int32 → Int32 → Int32 → Int32 → ml_M → Option Int32) (l0 : Nat) (l1 : Int32) (l2 : Int32) (l3 : Int32) (l4 : Int32) (l5 : Int32) (l6 : Int32) (m : ml_M) : Option Int32 :=
    fX11_earliest_102 k49 l0 l1 l2 l3 l4 l5 l6 (0 : Int32) m
def fX11_earliest_49 : Nat → Nat → Int32 → Int32 → Int32 → Int32 → Int32 → Int32 → ml_M → Option Int32
  | 0, _, _, _, _, _, _, _, _ => none
  | fu + 1, l0, l1, l2, l3, l4, l5, l6, m =>
    if (ml_K m l0).1 = 11 then
    if (ml_I m l0 41) ≤ l6 then
    some l5
    else
    ml_b1 (fX11_has l1 l6 m) fun r3489 =>
    if r3489 = 0 then
    fX11_earliest_101 (fX11_earliest_49 fu) l0 l1 l2 l3 l4 l5 l6 m
    else
    ml_let (ml_R m l0 42) fun a3490 =>
    if ml_in m a3490 20 l6 then
    ml_b1 (fX11_x l0 (ml_I m a3490 l6.toNatClampNeg) m) fun r3493 =>
    ml_let (ml_R m l0 42) fun a3494 =>
    if ml_in m a3494 20 l2 then
    ml_b1 (fX11_x l0 (ml_I m a3494 l2.toNatClampNeg) m) fun r3497 =>
    if (r3493 - r3493 / (10 : Int32) * (10 : Int32)) = (r3497 / (10 : Int32)) then
    fX11_earliest_102 (fX11_earliest_49 fu) l0 l1 l2 l3 l4 l5 l6 (1 : Int32) m
    else
    fX11_earliest_101 (fX11_earliest_49 fu) l0 l1 l2 l3 l4 l5 l6 m
    else none
    else none
    else none
def fX11_earliest (l0 : Nat) (l1 : Int32) (l2 : Int32) (m : ml_M) : Option Int32 :=
    if (ml_K m l0).1 = 11 then
    ml_let (ml_R m l0 25) fun a3499 =>
    ml_let (ml_R m l0 42) fun a3500 =>
    if ml_in m a3500 20 l2 then
    if ml_in m a3499 20 (((7 : Int32) * (ml_I m a3500 l2.toNatClampNeg)) + (1 : Int32)) then
    ml_let (ml_I m a3499 (((7 : Int32) * (ml_I m a3500 l2.toNatClampNeg)) + (1 : Int32)).toNatClampNeg) fun x3503 =>
    ml_let (ml_R m l0 25) fun a3504 =>
    ml_let (ml_R m l0 42) fun a3505 =>
    if ml_in m a3505 20 l2 then
    if ml_in m a3504 20 (((7 : Int32) * (ml_I m a3505 l2.toNatClampNeg)) + (2 : Int32)) then
    ml_let (ml_I m a3504 (((7 : Int32) * (ml_I m a3505 l2.toNatClampNeg)) + (2 : Int32)).toNatClampNeg) fun x3508 =>
    if l1 = 0 then
    some x3503
    else
    fX11_earliest_49 ml_fu l0 l1 l2 x3503 x3508 (1000 : Int32) (0 : Int32) m
    else none
    else none
    else none
    else none
    else none
def fX11_layJourneys_107 (k2 : Nat → Int32 → ml_M → Option ml_M) (k29 : Nat → Int32 → Int32 → ml_M → Option ml_M) (l0 : Nat) (l1 : Int32) (l2 : Int32) (t0 : Int32) (t1 : Int32) (t2 : Nat) (m : ml_M) : Option ml_M :=
    if ml_in m t2 22 t1 then
    ml_let (ml_sI m t2 t1.toNatClampNeg (t0 &&& 1)) fun m3510 =>
    k29 l0 l1 (l2 + (1 : Int32)) m3510
    else none
def fX11_layJourneys_102 (k2 : Nat → Int32 → ml_M → Option ml_M) (k29 : Nat → Int32 → Int32 → ml_M → Option ml_M) (l0 : Nat) (l1 : Int32) (l2 : Int32) (t0 : Int32) (t1 : Nat) (m : ml_M) : Option ml_M :=
    fX11_layJourneys_107 k2 k29 l0 l1 l2 (1 : Int32) t0 t1 m
def fX11_layJourneys_75 (k2 : Nat → Int32 → ml_M → Option ml_M) (k29 : Nat → Int32 → Int32 → ml_M → Option ml_M) (l0 : Nat) (l1 : Int32) (l2 : Int32) (l3 : Int32) (t0 : Int32) (t1 : Int32) (t2 : Nat) (m : ml_M) : Option ml_M :=
    if ml_in m t2 20 t1 then
    ml_let (ml_sI m t2 t1.toNatClampNeg t0) fun m3513 =>
    if (ml_K m3513 l0).1 = 11 then
    ml_let (ml_R m3513 l0 44) fun a3516 =>
    ml_let (ml_R m3513 l0 44) fun a3517 =>
    if ml_in m3513 a3517 22 l1 then
    if (ml_I m3513 a3517 l1.toNatClampNeg) = 0 then
    ml_let (ml_R m3513 l0 43) fun a3519 =>
    if ml_in m3513 a3519 20 l3 then
    if (1000 : Int32) ≤ (ml_I m3513 a3519 l3.toNatClampNeg) then
    fX11_layJourneys_107 k2 k29 l0 l1 l2 (0 : Int32) l1 a3516 m3513
    else
    fX11_layJourneys_102 k2 k29 l0 l1 l2 l1 a3516 m3513
    else none
    else
    fX11_layJourneys_102 k2 k29 l0 l1 l2 l1 a3516 m3513
    else none
    else none
    else none
def fX11_layJourneys_114 (k2 : Nat → Int32 → ml_M → Option ml_M) (l0 : Nat) (l1 : Int32) (m : ml_M) : Option ml_M :=
    k2 l0 (l1 + (1 : Int32)) m
def fX11_layJourneys_29 (k2 : Nat → Int32 → ml_M → Option ml_M) : Nat → Nat → Int32 → Int32 → ml_M → Option ml_M
  | 0, _, _, _, _ => none
  | fu + 1, l0, l1, l2, m =>
    if (ml_K m l0).1 = 11 then
    if (ml_I m l0 41) ≤ l2 then
    fX11_layJourneys_114 k2 l0 l1 m
    else
    ml_let (((10 : Int32) * l1) + l2) fun x3522 =>
    ml_let (ml_R m l0 43) fun a3523 =>
    ml_b1 (fX11_has l1 l2 m) fun r3525 =>
    if r3525 = 0 then
    fX11_layJourneys_75 k2 (fX11_layJourneys_29 k2 fu) l0 l1 l2 x3522 (1000 : Int32) x3522 a3523 m
    else
    ml_b1 (fX11_earliest l0 (l1 &&& (((1 : Int32) <<< (l2 &&& 31)) ^^^ (-1 : Int32))) l2 m) fun r3527 =>
    fX11_layJourneys_75 k2 (fX11_layJourneys_29 k2 fu) l0 l1 l2 x3522 r3527 x3522 a3523 m
    else none
def fX11_layJourneys_26 (k2 : Nat → Int32 → ml_M → Option ml_M) (l0 : Nat) (l1 : Int32) (t0 : Int32) (t1 : Int32) (t2 : Nat) (m : ml_M) : Option ml_M :=
    if ml_in m t2 22 t1 then
    ml_let (ml_sI m t2 t1.toNatClampNeg (t0 &&& 1)) fun m3529 =>
    fX11_layJourneys_29 k2 ml_fu l0 l1 (0 : Int32) m3529
    else none
def fX11_layJourneys_2 : Nat → Nat → Int32 → ml_M → Option ml_M
  | 0, _, _, _ => none
  | fu + 1, l0, l1, m =>
    if (ml_K m l0).1 = 11 then
    if ((1 : Int32) <<< ((ml_I m l0 41) &&& 31)) ≤ l1 then
    some m
    else
    ml_let (ml_R m l0 44) fun a3532 =>
    if l1 = 0 then
    fX11_layJourneys_26 (fX11_layJourneys_2 fu) l0 l1 (1 : Int32) l1 a3532 m
    else
    fX11_layJourneys_26 (fX11_layJourneys_2 fu) l0 l1 (0 : Int32) l1 a3532 m
    else none
def fX11_layJourneys (l0 : Nat) (m : ml_M) : Option ml_M :=
    fX11_layJourneys_2 ml_fu l0 (0 : Int32) m
def fX11_travellers_103 (k19 : Nat → Int32 → ml_M → Option (Int32 × ml_M)) (k47 : Nat → Int32 → Int32 → ml_M → Option (Int32 × ml_M)) (l0 : Nat) (l1 : Int32) (l2 : Int32) (t0 : Int32) (t1 : Int32) (t2 : Nat) (m : ml_M) : Option (Int32 × ml_M) :=
    if ml_in m t2 20 t1 then
    ml_let (ml_sI m t2 t1.toNatClampNeg t0) fun m3534 =>
    ml_let ((l2 - (1 : Int32)) &&& l1) fun x3536 =>
    k47 l0 l1 x3536 m3534
    else none
def fX11_travellers_77 (k19 : Nat → Int32 → ml_M → Option (Int32 × ml_M)) (k47 : Nat → Int32 → Int32 → ml_M → Option (Int32 × ml_M)) (l0 : Nat) (l1 : Int32) (l2 : Int32) (t0 : Int32) (m : ml_M) : Option (Int32 × ml_M) :=
    if (ml_K m l0).1 = 11 then
    ml_let (ml_R m l0 45) fun a3538 =>
    ml_let (ml_R m l0 45) fun a3539 =>
    if ml_in m a3539 20 l1 then
    if (ml_I m a3539 l1.toNatClampNeg) ≤ t0 then
    ml_let (ml_R m l0 45) fun a3541 =>
    if ml_in m a3541 20 l1 then
    fX11_travellers_103 k19 k47 l0 l1 l2 (ml_I m a3541 l1.toNatClampNeg) l1 a3538 m
    else none
    else
    fX11_travellers_103 k19 k47 l0 l1 l2 t0 l1 a3538 m
    else none
    else none
def fX11_travellers_113 (k19 : Nat → Int32 → ml_M → Option (Int32 × ml_M)) (l0 : Nat) (l1 : Int32) (m : ml_M) : Option (Int32 × ml_M) :=
    k19 l0 (l1 + (1 : Int32)) m
def fX11_travellers_47 (k19 : Nat → Int32 → ml_M → Option (Int32 × ml_M)) : Nat → Nat → Int32 → Int32 → ml_M → Option (Int32 × ml_M)
  | 0, _, _, _, _ => none
  | fu + 1, l0, l1, l2, m =>
    if l2 ≤ 0 then
    fX11_travellers_113 k19 l0 l1 m
    else
    if (ml_K m l0).1 = 11 then
    ml_let (ml_R m l0 44) fun a3544 =>
    if ml_in m a3544 22 l2 then
    if (ml_I m a3544 l2.toNatClampNeg) = 0 then
    fX11_travellers_77 k19 (fX11_travellers_47 k19 fu) l0 l1 l2 (100 : Int32) m
    else
    ml_let (ml_R m l0 45) fun a3546 =>
    if ml_in m a3546 20 (l1 &&& (l2 ^^^ (-1 : Int32))) then
    fX11_travellers_77 k19 (fX11_travellers_47 k19 fu) l0 l1 l2 ((1 : Int32) + (ml_I m a3546 (l1 &&& (l2 ^^^ (-1 : Int32))).toNatClampNeg)) m
    else none
    else none
    else none
def fX11_travellers_44 (k19 : Nat → Int32 → ml_M → Option (Int32 × ml_M)) (l0 : Nat) (l1 : Int32) (t0 : Int32) (t1 : Int32) (t2 : Nat) (m : ml_M) : Option (Int32 × ml_M) :=
    if ml_in m t2 20 t1 then
    ml_let (ml_sI m t2 t1.toNatClampNeg t0) fun m3549 =>
    fX11_travellers_47 k19 ml_fu l0 l1 l1 m3549
    else none
def fX11_travellers_119 (l0 : Nat) (m : ml_M) : Option (Int32 × ml_M) :=
    if (ml_K m l0).1 = 11 then
    ml_let (ml_R m l0 45) fun a3552 =>
    if ml_in m a3552 20 (((1 : Int32) <<< ((ml_I m l0 41) &&& 31)) - (1 : Int32)) then
    some ((ml_I m a3552 (((1 : Int32) <<< ((ml_I m l0 41) &&& 31)) - (1 : Int32)).toNatClampNeg), m)
    else none
    else none
def fX11_travellers_19 : Nat → Nat → Int32 → ml_M → Option (Int32 × ml_M)
  | 0, _, _, _ => none
  | fu + 1, l0, l1, m =>
    if (ml_K m l0).1 = 11 then
    if ((1 : Int32) <<< ((ml_I m l0 41) &&& 31)) ≤ l1 then
    fX11_travellers_119 l0 m
    else
    ml_let (ml_R m l0 45) fun a3555 =>
    if l1 = 0 then
    fX11_travellers_44 (fX11_travellers_19 fu) l0 l1 (0 : Int32) l1 a3555 m
    else
    fX11_travellers_44 (fX11_travellers_19 fu) l0 l1 (100 : Int32) l1 a3555 m
    else none
def fX11_travellers (l0 : Nat) (m : ml_M) : Option (Int32 × ml_M) :=
    if (ml_K m l0).1 = 11 then
    ml_b2 (fX11_layTickets l0 (-1 : Int32) m) fun r3558 m3559 =>
    if r3558 ≤ (10 : Int32) then
    if (ml_K m3559 l0).1 = 11 then
    ml_b1 (fX11_layJourneys l0 m3559) fun m3562 =>
    fX11_travellers_19 ml_fu l0 (0 : Int32) m3562
    else none
    else
    some ((-6 : Int32), m3559)
    else none
def fX3_isOne_27 (m : ml_M) : Option (Int32 × ml_M) :=
    some ((1 : Int32), m)
def fX3_isOne (l0 : Nat) (m : ml_M) : Option (Int32 × ml_M) :=
    if (ml_K m l0).1 = 3 then
    ml_b1 (fX3_findLasts l0 m) fun m3565 =>
    if (ml_K m3565 l0).1 = 3 then
    if (ml_I m3565 l0 1) = 0 then
    fX3_isOne_27 m3565
    else
    ml_let (ml_R m3565 l0 3) fun a3567 =>
    if ml_in m3565 a3567 20 (((1 : Int32) <<< ((ml_I m3565 l0 1) &&& 31)) - (1 : Int32)) then
    if (ml_I m3565 a3567 (((1 : Int32) <<< ((ml_I m3565 l0 1) &&& 31)) - (1 : Int32)).toNatClampNeg) = 0 then
    some ((0 : Int32), m3565)
    else
    fX3_isOne_27 m3565
    else none
    else none
    else none
def fX10_journey (l0 : Nat) (l1 : Int32) (m : ml_M) : Option (Int32 × ml_M) :=
    if (ml_K m l0).1 = 10 then
    ml_b1 (fX10_within l1 (0 : Int32) (((1 : Int32) <<< ((ml_I m l0 5) &&& 31)) - (1 : Int32)) m) fun r3571 =>
    if r3571 = 0 then
    some ((-1 : Int32), m)
    else
    ml_let (ml_R m l0 14) fun a3572 =>
    ml_let (ml_R m l0 4) fun a3573 =>
    if (ml_K m a3572).1 = 3 then
    ml_b2 (fX3_gather a3572 a3573 (ml_I m l0 5) l1 m) fun r3576 m3577 =>
    if r3576 ≤ (10 : Int32) then
    if (ml_K m3577 l0).1 = 10 then
    ml_let (ml_R m3577 l0 14) fun a3579 =>
    if (ml_K m3577 a3579).1 = 3 then
    ml_b2 (fX3_isOne a3579 m3577) fun r3582 m3583 =>
    if r3582 = 0 then
    some ((0 : Int32), m3583)
    else
    some ((1 : Int32), m3583)
    else none
    else none
    else
    some ((-6 : Int32), m3577)
    else none
    else none
def fX11_journey (l0 : Nat) (l1 : Int32) (m : ml_M) : Option (Int32 × ml_M) :=
    if (ml_K m l0).1 = 11 then
    ml_b1 (fX11_in l1 (0 : Int32) (((1 : Int32) <<< ((ml_I m l0 24) &&& 31)) - (1 : Int32)) m) fun r3586 =>
    if r3586 = 0 then
    some ((-1 : Int32), m)
    else
    ml_b2 (fX11_layTickets l0 l1 m) fun r3588 m3589 =>
    if r3588 ≤ (10 : Int32) then
    if (ml_K m3589 l0).1 = 11 then
    ml_b1 (fX11_layJourneys l0 m3589) fun m3592 =>
    if (ml_K m3592 l0).1 = 11 then
    ml_let (ml_R m3592 l0 44) fun a3594 =>
    if ml_in m3592 a3594 22 (((1 : Int32) <<< ((ml_I m3592 l0 41) &&& 31)) - (1 : Int32)) then
    if (ml_I m3592 a3594 (((1 : Int32) <<< ((ml_I m3592 l0 41) &&& 31)) - (1 : Int32)).toNatClampNeg) = 0 then
    some ((0 : Int32), m3592)
    else
    some ((1 : Int32), m3592)
    else none
    else none
    else none
    else
    some ((-6 : Int32), m3589)
    else none
def fX2_init (l0 : Nat) (l1 : Int32) (l2 : Int32) (l3 : Nat) (m : ml_M) : Option ml_M :=
    if l0 ≠ 0 then
    if (ml_K m l0).1 = 2 then
    ml_let (ml_sI m l0 0 l1) fun m3598 =>
    ml_let (ml_sI m3598 l0 1 l2) fun m3600 =>
    ml_let (ml_sR m3600 l0 2 l3) fun m3602 =>
    some m3602
    else none
    else none
def fX10_claim_60 (l0 : Nat) (m : ml_M) : Option (Int32 × ml_M) :=
    if (ml_K m l0).1 = 10 then
    ml_b2 (fX10_found l0 (5 : Int32) m) fun r3606 m3607 =>
    some (r3606, m3607)
    else none
def fX10_claim_100 (l0 : Nat) (m : ml_M) : Option (Int32 × ml_M) :=
    if (ml_K m l0).1 = 10 then
    ml_b2 (fX10_found l0 (3 : Int32) m) fun r3610 m3611 =>
    some (r3610, m3611)
    else none
def fX10_claim_112 (l0 : Nat) (l1 : Int32) (l2 : Int32) (l4 : Nat) (m : ml_M) : Option (Int32 × ml_M) :=
    if (ml_K m l0).1 = 10 then
    ml_let (ml_R m l0 10) fun a3613 =>
    ml_let (ml_n m + 1) fun a3614 =>
    ml_let (ml_al m 2 0 3) fun m3615 =>
    if (ml_K m3615 l4).1 = 20 then
    ml_let (ml_n m3615 + 1) fun a3619 =>
    ml_let (ml_cl2 m3615 l4) fun m3620 =>
    ml_b1 (fX2_init a3614 l1 l2 a3619 m3620) fun m3624 =>
    if (ml_K m3624 a3614).1 = 2 then
    if ml_in m3624 a3613 26 (ml_I m l0 11) then
    ml_let (ml_sR m3624 a3613 (ml_I m l0 11).toNatClampNeg a3614) fun m3627 =>
    if (ml_K m3627 l0).1 = 10 then
    ml_let (ml_sI m3627 l0 11 ((ml_I m3627 l0 11) + (1 : Int32))) fun m3630 =>
    some ((ml_I m3627 l0 11), m3630)
    else none
    else none
    else none
    else none
    else none
def fX10_claim_81 : Nat → Nat → Int32 → Int32 → Nat → Int32 → ml_M → Option (Int32 × ml_M)
  | 0, _, _, _, _, _, _ => none
  | fu + 1, l0, l1, l2, l4, l5, m =>
    if (ml_K m l4).1 = 20 then
    if (Int32.ofNat (ml_K m l4).2) ≤ l5 then
    fX10_claim_112 l0 l1 l2 l4 m
    else
    if ml_in m l4 20 l5 then
    ml_b1 (fX10_isKind (ml_I m l4 l5.toNatClampNeg) m) fun r3635 =>
    if r3635 = 0 then
    fX10_claim_100 l0 m
    else
    (fX10_claim_81 fu) l0 l1 l2 l4 (l5 + (2 : Int32)) m
    else none
    else none
def fX10_claim (l0 : Nat) (l1 : Int32) (l2 : Int32) (l3 : Int32) (m : ml_M) : Option (Int32 × ml_M) :=
    ml_b1 (fX10_within l1 (0 : Int32) (9 : Int32) m) fun r3637 =>
    if r3637 = 0 then
    some ((-1 : Int32), m)
    else
    if (ml_K m l0).1 = 10 then
    ml_b1 (fX10_isTrunk l0 l2 m) fun r3640 =>
    if r3640 = 0 then
    some ((-1 : Int32), m)
    else
    ml_b1 (fX10_isRow l3 m) fun r3642 =>
    if r3642 = 0 then
    some ((-1 : Int32), m)
    else
    ml_let (ml_R m l0 0) fun a3643 =>
    if ml_in m a3643 23 l3 then
    ml_let (ml_R m a3643 l3.toNatClampNeg) fun a3645 =>
    if a3645 = 0 then
    ml_b2 (fX10_found l0 (1 : Int32) m) fun r3648 m3649 =>
    some (r3648, m3649)
    else
    if (ml_K m a3645).1 = 20 then
    if (Int32.ofNat (ml_K m a3645).2) = 0 then
    fX10_claim_60 l0 m
    else
    if ((Int32.ofNat (ml_K m a3645).2) - (Int32.ofNat (ml_K m a3645).2) / (2 : Int32) * (2 : Int32)) = 0 then
    if (ml_I m l0 11) < (8 : Int32) then
    fX10_claim_81 ml_fu l0 l1 l2 a3645 (0 : Int32) m
    else
    some ((-2 : Int32), m)
    else
    fX10_claim_60 l0 m
    else none
    else none
    else none
def fX11_claim_63 (l0 : Nat) (m : ml_M) : Option (Int32 × ml_M) :=
    if (ml_K m l0).1 = 11 then
    ml_b2 (fX11_meets l0 (5 : Int32) m) fun r3652 m3653 =>
    some (r3652, m3653)
    else none
def fX11_claim_123 (k87 : Nat → Int32 → Int32 → Int32 → Int32 → Int32 → ml_M → Option (Int32 × ml_M)) (l0 : Nat) (l1 : Int32) (l2 : Int32) (l3 : Int32) (l5 : Int32) (t0 : Int32) (m : ml_M) : Option (Int32 × ml_M) :=
    k87 l0 l1 l2 l3 t0 (l5 + (2 : Int32)) m
def fX11_claim_122 (k87 : Nat → Int32 → Int32 → Int32 → Int32 → Int32 → ml_M → Option (Int32 × ml_M)) (l0 : Nat) (l1 : Int32) (l2 : Int32) (l3 : Int32) (l5 : Int32) (m : ml_M) : Option (Int32 × ml_M) :=
    fX11_claim_123 k87 l0 l1 l2 l3 l5 (0 : Int32) m
def fX11_claim_229 (k189 : Nat → Int32 → Int32 → Int32 → ml_M → Option (Int32 × ml_M)) (l0 : Nat) (l3 : Int32) (l5 : Int32) (l6 : Int32) (t0 : Int32) (t1 : Int32) (t2 : Nat) (m : ml_M) : Option (Int32 × ml_M) :=
    if ml_in m t2 20 t1 then
    ml_let (ml_sI m t2 t1.toNatClampNeg t0) fun m3655 =>
    k189 l0 l3 l5 (l6 + (1 : Int32)) m3655
    else none
def fX11_claim_236 (l0 : Nat) (m : ml_M) : Option (Int32 × ml_M) :=
    if (ml_K m l0).1 = 11 then
    ml_let (ml_sI m l0 46 ((ml_I m l0 46) + (1 : Int32))) fun m3658 =>
    some (((ml_I m3658 l0 46) - (1 : Int32)), m3658)
    else none
def fX11_claim_189 : Nat → Nat → Int32 → Int32 → Int32 → ml_M → Option (Int32 × ml_M)
  | 0, _, _, _, _, _ => none
  | fu + 1, l0, l3, l5, l6, m =>
    if (48 : Int32) ≤ l6 then
    fX11_claim_236 l0 m
    else
    if (ml_K m l0).1 = 11 then
    ml_let (ml_R m l0 47) fun a3661 =>
    ml_let (ml_R m l0 4) fun a3662 =>
    if ml_in m a3662 20 l3 then
    if (ml_I m a3662 l3.toNatClampNeg) ≤ l6 then
    fX11_claim_229 (fX11_claim_189 fu) l0 l3 l5 l6 (0 : Int32) ((l5 + (3 : Int32)) + l6) a3661 m
    else
    ml_b1 (fX11_rowAt l0 l3 l6 m) fun r3665 =>
    fX11_claim_229 (fX11_claim_189 fu) l0 l3 l5 l6 r3665 ((l5 + (3 : Int32)) + l6) a3661 m
    else none
    else none
def fX11_claim_131 (l0 : Nat) (l1 : Int32) (l2 : Int32) (l3 : Int32) (l4 : Int32) (m : ml_M) : Option (Int32 × ml_M) :=
    if l4 = 0 then
    if (ml_K m l0).1 = 11 then
    ml_b2 (fX11_meets l0 (3 : Int32) m) fun r3684 m3685 =>
    some (r3684, m3685)
    else none
    else
    if (ml_K m l0).1 = 11 then
    ml_let ((51 : Int32) * (ml_I m l0 46)) fun x3667 =>
    ml_let (ml_R m l0 47) fun a3668 =>
    if ml_in m a3668 20 x3667 then
    ml_let (ml_sI m a3668 x3667.toNatClampNeg l1) fun m3670 =>
    ml_let (ml_R m3670 l0 47) fun a3672 =>
    if ml_in m3670 a3672 20 (x3667 + (1 : Int32)) then
    ml_let (ml_sI m3670 a3672 (x3667 + (1 : Int32)).toNatClampNeg l2) fun m3674 =>
    ml_let (ml_R m3674 l0 47) fun a3676 =>
    ml_let (ml_R m3674 l0 4) fun a3677 =>
    if ml_in m3674 a3677 20 l3 then
    if ml_in m3674 a3676 20 (x3667 + (2 : Int32)) then
    ml_let (ml_sI m3674 a3676 (x3667 + (2 : Int32)).toNatClampNeg ((ml_I m3674 a3677 l3.toNatClampNeg) / (2 : Int32))) fun m3680 =>
    fX11_claim_189 ml_fu l0 l3 x3667 (0 : Int32) m3680
    else none
    else none
    else none
    else none
    else none
def fX11_claim_87 : Nat → Nat → Int32 → Int32 → Int32 → Int32 → Int32 → ml_M → Option (Int32 × ml_M)
  | 0, _, _, _, _, _, _, _ => none
  | fu + 1, l0, l1, l2, l3, l4, l5, m =>
    if (ml_K m l0).1 = 11 then
    ml_let (ml_R m l0 4) fun a3687 =>
    if ml_in m a3687 20 l3 then
    if (ml_I m a3687 l3.toNatClampNeg) ≤ l5 then
    fX11_claim_131 l0 l1 l2 l3 l4 m
    else
    if l4 = 0 then
    fX11_claim_122 (fX11_claim_87 fu) l0 l1 l2 l3 l5 m
    else
    ml_b1 (fX11_rowAt l0 l3 l5 m) fun r3690 =>
    ml_b1 (fX11_in r3690 (1 : Int32) (5 : Int32) m) fun r3692 =>
    if r3692 = 0 then
    fX11_claim_122 (fX11_claim_87 fu) l0 l1 l2 l3 l5 m
    else
    fX11_claim_123 (fX11_claim_87 fu) l0 l1 l2 l3 l5 (1 : Int32) m
    else none
    else none
def fX11_claim (l0 : Nat) (l1 : Int32) (l2 : Int32) (l3 : Int32) (m : ml_M) : Option (Int32 × ml_M) :=
    ml_b1 (fX11_in l1 (0 : Int32) (9 : Int32) m) fun r3694 =>
    if r3694 = 0 then
    some ((-1 : Int32), m)
    else
    if (ml_K m l0).1 = 11 then
    ml_b1 (fX11_isTrunk l0 l2 m) fun r3697 =>
    if r3697 = 0 then
    some ((-1 : Int32), m)
    else
    ml_b1 (fX11_isRow l3 m) fun r3699 =>
    if r3699 = 0 then
    some ((-1 : Int32), m)
    else
    ml_let (ml_R m l0 4) fun a3700 =>
    if ml_in m a3700 20 l3 then
    if 0 ≤ (ml_I m a3700 l3.toNatClampNeg) then
    ml_let (ml_R m l0 4) fun a3702 =>
    if ml_in m a3702 20 l3 then
    if (ml_I m a3702 l3.toNatClampNeg) = 0 then
    fX11_claim_63 l0 m
    else
    ml_let (ml_R m l0 4) fun a3704 =>
    if ml_in m a3704 20 l3 then
    if ((ml_I m a3704 l3.toNatClampNeg) - (ml_I m a3704 l3.toNatClampNeg) / (2 : Int32) * (2 : Int32)) = (1 : Int32) then
    fX11_claim_63 l0 m
    else
    if (ml_I m l0 46) = (8 : Int32) then
    some ((-2 : Int32), m)
    else
    fX11_claim_87 ml_fu l0 l1 l2 l3 (1 : Int32) (0 : Int32) m
    else none
    else none
    else
    ml_b2 (fX11_meets l0 (1 : Int32) m) fun r3707 m3708 =>
    some (r3707, m3708)
    else none
    else none
def fX10_isTrue_51 (k3 : Nat → Int32 → Int32 → Int32 → Int32 → ml_M → Option Int32) (l0 : Nat) (l1 : Int32) (l2 : Int32) (l3 : Int32) (l4 : Int32) (m : ml_M) : Option Int32 :=
    k3 l0 l1 l2 l3 (l4 + (1 : Int32)) m
def fX10_isTrue_3 : Nat → Nat → Int32 → Int32 → Int32 → Int32 → ml_M → Option Int32
  | 0, _, _, _, _, _, _ => none
  | fu + 1, l0, l1, l2, l3, l4, m =>
    if (ml_K m l0).1 = 10 then
    if (ml_I m l0 5) ≤ l4 then
    some (0 : Int32)
    else
    ml_let (ml_R m l0 4) fun a3710 =>
    if ml_in m a3710 29 l4 then
    ml_let (ml_R m a3710 l4.toNatClampNeg) fun a3712 =>
    if (ml_K m a3712).1 = 8 then
    if (ml_I m a3712 6) = l1 then
    ml_b1 (fX8_isOf a3712 l2 m) fun r3715 =>
    if r3715 = 0 then
    fX10_isTrue_51 (fX10_isTrue_3 fu) l0 l1 l2 l3 l4 m
    else
    ml_b1 (fX8_tells a3712 l2 m) fun r3717 =>
    if r3717 = l3 then
    some (1 : Int32)
    else
    fX10_isTrue_51 (fX10_isTrue_3 fu) l0 l1 l2 l3 l4 m
    else
    fX10_isTrue_51 (fX10_isTrue_3 fu) l0 l1 l2 l3 l4 m
    else none
    else none
    else none
def fX10_isTrue (l0 : Nat) (l1 : Int32) (l2 : Int32) (l3 : Int32) (m : ml_M) : Option Int32 :=
    fX10_isTrue_3 ml_fu l0 l1 l2 l3 (0 : Int32) m
def fX10_trueMarks_43 (k4 : Nat → Nat → Int32 → Int32 → ml_M → Option Int32) (l0 : Nat) (l1 : Nat) (l2 : Int32) (l3 : Int32) (m : ml_M) : Option Int32 :=
    k4 l0 l1 l2 (l3 + (2 : Int32)) m
def fX10_trueMarks_4 : Nat → Nat → Nat → Int32 → Int32 → ml_M → Option Int32
  | 0, _, _, _, _, _ => none
  | fu + 1, l0, l1, l2, l3, m =>
    if (ml_K m l1).1 = 2 then
    ml_let (ml_R m l1 2) fun a3719 =>
    if (ml_K m a3719).1 = 20 then
    if (Int32.ofNat (ml_K m a3719).2) ≤ (l3 + (1 : Int32)) then
    some l2
    else
    ml_let (ml_R m l1 2) fun a3721 =>
    if ml_in m a3721 20 l3 then
    ml_let (ml_R m l1 2) fun a3723 =>
    if ml_in m a3723 20 (l3 + (1 : Int32)) then
    if (ml_K m l0).1 = 10 then
    ml_b1 (fX10_isTrue l0 (ml_I m l1 1) (ml_I m a3721 l3.toNatClampNeg) (ml_I m a3723 (l3 + (1 : Int32)).toNatClampNeg) m) fun r3727 =>
    if r3727 = 0 then
    fX10_trueMarks_43 (fX10_trueMarks_4 fu) l0 l1 l2 l3 m
    else
    fX10_trueMarks_43 (fX10_trueMarks_4 fu) l0 l1 (l2 + (1 : Int32)) l3 m
    else none
    else none
    else none
    else none
    else none
def fX10_trueMarks (l0 : Nat) (l1 : Nat) (m : ml_M) : Option Int32 :=
    fX10_trueMarks_4 ml_fu l0 l1 (0 : Int32) (0 : Int32) m
def fX10_judge (l0 : Nat) (l1 : Int32) (m : ml_M) : Option (Int32 × ml_M) :=
    if (ml_K m l0).1 = 10 then
    ml_b1 (fX10_within l1 (0 : Int32) ((ml_I m l0 11) - (1 : Int32)) m) fun r3730 =>
    if r3730 = 0 then
    some ((-1 : Int32), m)
    else
    ml_let (ml_R m l0 10) fun a3731 =>
    if ml_in m a3731 26 l1 then
    ml_let (ml_R m a3731 l1.toNatClampNeg) fun a3733 =>
    if (ml_K m a3733).1 = 2 then
    ml_let (ml_R m a3733 2) fun a3735 =>
    if (ml_K m a3735).1 = 20 then
    ml_let (ml_sI m l0 15 ((Int32.ofNat (ml_K m a3735).2) / (2 : Int32))) fun m3737 =>
    ml_let (ml_R m3737 l0 10) fun a3739 =>
    if ml_in m3737 a3739 26 l1 then
    ml_let (ml_R m3737 a3739 l1.toNatClampNeg) fun a3741 =>
    ml_b1 (fX10_trueMarks l0 a3741 m3737) fun r3743 =>
    some (r3743, m3737)
    else none
    else none
    else none
    else none
    else none
def fX11_trueMany_122 (k10 : Nat → Int32 → Int32 → Int32 → ml_M → Option Int32) (k29 : Nat → Int32 → Int32 → Int32 → Int32 → Int32 → ml_M → Option Int32) (l0 : Nat) (l2 : Int32) (l3 : Int32) (l4 : Int32) (l6 : Int32) (t0 : Int32) (m : ml_M) : Option Int32 :=
    k29 l0 l2 l3 l4 t0 (l6 + (1 : Int32)) m
def fX11_trueMany_117 (k10 : Nat → Int32 → Int32 → Int32 → ml_M → Option Int32) (k29 : Nat → Int32 → Int32 → Int32 → Int32 → Int32 → ml_M → Option Int32) (l0 : Nat) (l2 : Int32) (l3 : Int32) (l4 : Int32) (l6 : Int32) (m : ml_M) : Option Int32 :=
    fX11_trueMany_122 k10 k29 l0 l2 l3 l4 l6 (1 : Int32) m
def fX11_trueMany_121 (k10 : Nat → Int32 → Int32 → Int32 → ml_M → Option Int32) (k29 : Nat → Int32 → Int32 → Int32 → Int32 → Int32 → ml_M → Option Int32) (l0 : Nat) (l2 : Int32) (l3 : Int32) (l4 : Int32) (l6 : Int32) (m : ml_M) : Option Int32 :=
    fX11_trueMany_122 k10 k29 l0 l2 l3 l4 l6 (0 : Int32) m
def fX11_trueMany_141 (k10 : Nat → Int32 → Int32 → Int32 → ml_M → Option Int32) (l0 : Nat) (l2 : Int32) (l4 : Int32) (t0 : Int32) (t1 : Int32) (m : ml_M) : Option Int32 :=
    ml_let (t1 + t0) fun x3744 =>
    k10 l0 l2 x3744 (l4 + (1 : Int32)) m
def fX11_trueMany_130 (k10 : Nat → Int32 → Int32 → Int32 → ml_M → Option Int32) (l0 : Nat) (l2 : Int32) (l3 : Int32) (l4 : Int32) (l5 : Int32) (m : ml_M) : Option Int32 :=
    if l5 = 0 then
    fX11_trueMany_141 k10 l0 l2 l4 (0 : Int32) l3 m
    else
    fX11_trueMany_141 k10 l0 l2 l4 (1 : Int32) l3 m
def fX11_trueMany_29 (k10 : Nat → Int32 → Int32 → Int32 → ml_M → Option Int32) : Nat → Nat → Int32 → Int32 → Int32 → Int32 → Int32 → ml_M → Option Int32
  | 0, _, _, _, _, _, _, _ => none
  | fu + 1, l0, l2, l3, l4, l5, l6, m =>
    if (ml_K m l0).1 = 11 then
    if (ml_I m l0 24) ≤ l6 then
    fX11_trueMany_130 k10 l0 l2 l3 l4 l5 m
    else
    if l5 = 0 then
    ml_b1 (fX11_trunkOf l0 l6 m) fun r3747 =>
    ml_let (ml_R m l0 47) fun a3748 =>
    if ml_in m a3748 20 (l2 + (1 : Int32)) then
    if r3747 = (ml_I m a3748 (l2 + (1 : Int32)).toNatClampNeg) then
    ml_let (ml_R m l0 47) fun a3750 =>
    if ml_in m a3750 20 ((l2 + (3 : Int32)) + ((2 : Int32) * l4)) then
    ml_b1 (fX11_isOf l0 l6 (ml_I m a3750 ((l2 + (3 : Int32)) + ((2 : Int32) * l4)).toNatClampNeg) m) fun r3753 =>
    if r3753 = 0 then
    fX11_trueMany_121 k10 (fX11_trueMany_29 k10 fu) l0 l2 l3 l4 l6 m
    else
    ml_let (ml_R m l0 47) fun a3754 =>
    if ml_in m a3754 20 ((l2 + (3 : Int32)) + ((2 : Int32) * l4)) then
    ml_b1 (fX11_markOf l0 l6 (ml_I m a3754 ((l2 + (3 : Int32)) + ((2 : Int32) * l4)).toNatClampNeg) m) fun r3757 =>
    ml_let (ml_R m l0 47) fun a3758 =>
    if ml_in m a3758 20 ((l2 + (4 : Int32)) + ((2 : Int32) * l4)) then
    if r3757 = (ml_I m a3758 ((l2 + (4 : Int32)) + ((2 : Int32) * l4)).toNatClampNeg) then
    fX11_trueMany_117 k10 (fX11_trueMany_29 k10 fu) l0 l2 l3 l4 l6 m
    else
    fX11_trueMany_121 k10 (fX11_trueMany_29 k10 fu) l0 l2 l3 l4 l6 m
    else none
    else none
    else none
    else
    fX11_trueMany_121 k10 (fX11_trueMany_29 k10 fu) l0 l2 l3 l4 l6 m
    else none
    else
    fX11_trueMany_117 k10 (fX11_trueMany_29 k10 fu) l0 l2 l3 l4 l6 m
    else none
def fX11_trueMany_10 : Nat → Nat → Int32 → Int32 → Int32 → ml_M → Option Int32
  | 0, _, _, _, _, _ => none
  | fu + 1, l0, l2, l3, l4, m =>
    if (ml_K m l0).1 = 11 then
    ml_let (ml_R m l0 47) fun a3761 =>
    if ml_in m a3761 20 (l2 + (2 : Int32)) then
    if (ml_I m a3761 (l2 + (2 : Int32)).toNatClampNeg) ≤ l4 then
    some l3
    else
    fX11_trueMany_29 (fX11_trueMany_10 fu) ml_fu l0 l2 l3 l4 (0 : Int32) (0 : Int32) m
    else none
    else none
def fX11_trueMany (l0 : Nat) (l1 : Int32) (m : ml_M) : Option Int32 :=
    ml_let ((51 : Int32) * l1) fun x3763 =>
    fX11_trueMany_10 ml_fu l0 x3763 (0 : Int32) (0 : Int32) m
def fX11_judge (l0 : Nat) (l1 : Int32) (m : ml_M) : Option (Int32 × ml_M) :=
    if (ml_K m l0).1 = 11 then
    ml_b1 (fX11_in l1 (0 : Int32) ((ml_I m l0 46) - (1 : Int32)) m) fun r3766 =>
    if r3766 = 0 then
    some ((-1 : Int32), m)
    else
    ml_let (ml_R m l0 47) fun a3767 =>
    if ml_in m a3767 20 (((51 : Int32) * l1) + (2 : Int32)) then
    ml_b1 (fX11_trueMany l0 l1 m) fun r3770 =>
    ml_b2 (fX11_tells l0 (ml_I m a3767 (((51 : Int32) * l1) + (2 : Int32)).toNatClampNeg) r3770 m) fun r3772 m3773 =>
    some (r3772, m3773)
    else none
    else none
def fX10_heir_114 (k29 : Nat → Int32 → Int32 → Int32 → Int32 → Int32 → ml_M → Option (Int32 × ml_M)) (l0 : Nat) (l1 : Int32) (l2 : Int32) (l3 : Int32) (l4 : Int32) (l5 : Int32) (m : ml_M) : Option (Int32 × ml_M) :=
    k29 l0 l1 l2 l3 l4 (l5 + (1 : Int32)) m
def fX10_heir_109 (k29 : Nat → Int32 → Int32 → Int32 → Int32 → Int32 → ml_M → Option (Int32 × ml_M)) (l0 : Nat) (l1 : Int32) (l2 : Int32) (l5 : Int32) (l7 : Int32) (t0 : Int32) (m : ml_M) : Option (Int32 × ml_M) :=
    fX10_heir_114 k29 l0 l1 l2 l7 t0 l5 m
def fX10_heir_99 (k29 : Nat → Int32 → Int32 → Int32 → Int32 → Int32 → ml_M → Option (Int32 × ml_M)) (l0 : Nat) (l1 : Int32) (l2 : Int32) (l5 : Int32) (l6 : Nat) (l7 : Int32) (m : ml_M) : Option (Int32 × ml_M) :=
    if (ml_K m l6).1 = 2 then
    fX10_heir_109 k29 l0 l1 l2 l5 l7 (ml_I m l6 0) m
    else none
def fX10_heir_66 (k29 : Nat → Int32 → Int32 → Int32 → Int32 → Int32 → ml_M → Option (Int32 × ml_M)) (l0 : Nat) (l1 : Int32) (l2 : Int32) (l3 : Int32) (l4 : Int32) (l5 : Int32) (l6 : Nat) (t0 : Int32) (m : ml_M) : Option (Int32 × ml_M) :=
    if t0 < l2 then
    fX10_heir_114 k29 l0 l1 l2 l3 l4 l5 m
    else
    if l3 ≤ t0 then
    if l3 < t0 then
    fX10_heir_99 k29 l0 l1 l2 l5 l6 t0 m
    else
    if (ml_K m l6).1 = 2 then
    if l4 = (ml_I m l6 0) then
    fX10_heir_99 k29 l0 l1 l2 l5 l6 t0 m
    else
    fX10_heir_109 k29 l0 l1 l2 l5 t0 (-9 : Int32) m
    else none
    else
    fX10_heir_114 k29 l0 l1 l2 l3 l4 l5 m
def fX10_heir_120 (l0 : Nat) (l3 : Int32) (l4 : Int32) (m : ml_M) : Option (Int32 × ml_M) :=
    if l4 = (-9 : Int32) then
    some ((-9 : Int32), m)
    else
    if (ml_K m l0).1 = 10 then
    ml_let (ml_sI m l0 15 l3) fun m3777 =>
    some (l4, m3777)
    else none
def fX10_heir_29 : Nat → Nat → Int32 → Int32 → Int32 → Int32 → Int32 → ml_M → Option (Int32 × ml_M)
  | 0, _, _, _, _, _, _, _ => none
  | fu + 1, l0, l1, l2, l3, l4, l5, m =>
    if (ml_K m l0).1 = 10 then
    if (ml_I m l0 11) ≤ l5 then
    fX10_heir_120 l0 l3 l4 m
    else
    ml_let (ml_R m l0 10) fun a3780 =>
    if ml_in m a3780 26 l5 then
    ml_let (ml_R m a3780 l5.toNatClampNeg) fun a3782 =>
    if (ml_K m a3782).1 = 2 then
    if (ml_I m a3782 1) = l1 then
    ml_b1 (fX10_trueMarks l0 a3782 m) fun r3785 =>
    fX10_heir_66 (fX10_heir_29 fu) l0 l1 l2 l3 l4 l5 a3782 r3785 m
    else
    fX10_heir_66 (fX10_heir_29 fu) l0 l1 l2 l3 l4 l5 a3782 (0 : Int32) m
    else none
    else none
    else none
def fX10_heir (l0 : Nat) (l1 : Int32) (l2 : Int32) (m : ml_M) : Option (Int32 × ml_M) :=
    if (ml_K m l0).1 = 10 then
    ml_b1 (fX10_isTrunk l0 l1 m) fun r3788 =>
    if r3788 = 0 then
    some ((-1 : Int32), m)
    else
    ml_b1 (fX10_within l2 (1 : Int32) (24 : Int32) m) fun r3790 =>
    if r3790 = 0 then
    some ((-1 : Int32), m)
    else
    fX10_heir_29 ml_fu l0 l1 l2 (0 : Int32) (-9 : Int32) (0 : Int32) m
    else none
def fX11_heir_130 (k32 : Nat → Int32 → Int32 → Int32 → Int32 → Int32 → Int32 → ml_M → Option (Int32 × ml_M)) (l0 : Nat) (l1 : Int32) (l2 : Int32) (l3 : Int32) (l4 : Int32) (l5 : Int32) (l6 : Int32) (m : ml_M) : Option (Int32 × ml_M) :=
    k32 l0 l1 l2 l3 l4 l5 (l6 + (1 : Int32)) m
def fX11_heir_113 (k32 : Nat → Int32 → Int32 → Int32 → Int32 → Int32 → Int32 → ml_M → Option (Int32 × ml_M)) (l0 : Nat) (l1 : Int32) (l2 : Int32) (l6 : Int32) (l7 : Int32) (t0 : Int32) (m : ml_M) : Option (Int32 × ml_M) :=
    if (ml_K m l0).1 = 11 then
    ml_let (ml_R m l0 47) fun a3792 =>
    if ml_in m a3792 20 ((51 : Int32) * l6) then
    ml_let (ml_I m a3792 ((51 : Int32) * l6).toNatClampNeg) fun x3794 =>
    fX11_heir_130 k32 l0 l1 l2 x3794 l7 t0 l6 m
    else none
    else none
def fX11_heir_108 (k32 : Nat → Int32 → Int32 → Int32 → Int32 → Int32 → Int32 → ml_M → Option (Int32 × ml_M)) (l0 : Nat) (l1 : Int32) (l2 : Int32) (l6 : Int32) (l7 : Int32) (m : ml_M) : Option (Int32 × ml_M) :=
    fX11_heir_113 k32 l0 l1 l2 l6 l7 (1 : Int32) m
def fX11_heir_112 (k32 : Nat → Int32 → Int32 → Int32 → Int32 → Int32 → Int32 → ml_M → Option (Int32 × ml_M)) (l0 : Nat) (l1 : Int32) (l2 : Int32) (l6 : Int32) (l7 : Int32) (m : ml_M) : Option (Int32 × ml_M) :=
    fX11_heir_113 k32 l0 l1 l2 l6 l7 (0 : Int32) m
def fX11_heir_67 (k32 : Nat → Int32 → Int32 → Int32 → Int32 → Int32 → Int32 → ml_M → Option (Int32 × ml_M)) (l0 : Nat) (l1 : Int32) (l2 : Int32) (l3 : Int32) (l4 : Int32) (l5 : Int32) (l6 : Int32) (t0 : Int32) (m : ml_M) : Option (Int32 × ml_M) :=
    if t0 < l2 then
    fX11_heir_130 k32 l0 l1 l2 l3 l4 l5 l6 m
    else
    if t0 < l4 then
    fX11_heir_130 k32 l0 l1 l2 l3 l4 l5 l6 m
    else
    if t0 = l4 then
    if l5 = 0 then
    if (ml_K m l0).1 = 11 then
    ml_let (ml_R m l0 47) fun a3796 =>
    if ml_in m a3796 20 ((51 : Int32) * l6) then
    if l3 = (ml_I m a3796 ((51 : Int32) * l6).toNatClampNeg) then
    fX11_heir_112 k32 l0 l1 l2 l6 t0 m
    else
    fX11_heir_108 k32 l0 l1 l2 l6 t0 m
    else none
    else none
    else
    fX11_heir_108 k32 l0 l1 l2 l6 t0 m
    else
    fX11_heir_112 k32 l0 l1 l2 l6 t0 m
def fX11_heir_147 (m : ml_M) : Option (Int32 × ml_M) :=
    some ((-9 : Int32), m)
def fX11_heir_136 (l0 : Nat) (l3 : Int32) (l4 : Int32) (l5 : Int32) (m : ml_M) : Option (Int32 × ml_M) :=
    if l3 = (-9 : Int32) then
    fX11_heir_147 m
    else
    if l5 = 0 then
    if (ml_K m l0).1 = 11 then
    ml_b2 (fX11_tells l0 l4 l3 m) fun r3800 m3801 =>
    some (r3800, m3801)
    else none
    else
    fX11_heir_147 m
def fX11_heir_32 : Nat → Nat → Int32 → Int32 → Int32 → Int32 → Int32 → Int32 → ml_M → Option (Int32 × ml_M)
  | 0, _, _, _, _, _, _, _, _ => none
  | fu + 1, l0, l1, l2, l3, l4, l5, l6, m =>
    if (ml_K m l0).1 = 11 then
    if (ml_I m l0 46) ≤ l6 then
    fX11_heir_136 l0 l3 l4 l5 m
    else
    ml_let (ml_R m l0 47) fun a3803 =>
    if ml_in m a3803 20 (((51 : Int32) * l6) + (1 : Int32)) then
    if (ml_I m a3803 (((51 : Int32) * l6) + (1 : Int32)).toNatClampNeg) = l1 then
    ml_b1 (fX11_trueMany l0 l6 m) fun r3806 =>
    fX11_heir_67 (fX11_heir_32 fu) l0 l1 l2 l3 l4 l5 l6 r3806 m
    else
    fX11_heir_67 (fX11_heir_32 fu) l0 l1 l2 l3 l4 l5 l6 (-1 : Int32) m
    else none
    else none
def fX11_heir (l0 : Nat) (l1 : Int32) (l2 : Int32) (m : ml_M) : Option (Int32 × ml_M) :=
    if (ml_K m l0).1 = 11 then
    ml_b1 (fX11_isTrunk l0 l1 m) fun r3809 =>
    if r3809 = 0 then
    some ((-1 : Int32), m)
    else
    ml_b1 (fX11_in l2 (1 : Int32) (24 : Int32) m) fun r3811 =>
    if r3811 = 0 then
    some ((-1 : Int32), m)
    else
    fX11_heir_32 ml_fu l0 l1 l2 (-9 : Int32) (0 : Int32) (0 : Int32) (0 : Int32) m
    else none
def fX11_asked (l0 : Nat) (m : ml_M) : Option Int32 :=
    if (ml_K m l0).1 = 11 then
    some (ml_I m l0 2)
    else none
def fX11_many (l0 : Nat) (m : ml_M) : Option Int64 :=
    if (ml_K m l0).1 = 11 then
    some (ml_J m l0 3)
    else none
def fX10_letters_28 (k4 : Nat → Int32 → Int32 → ml_M → Option Int32) (l0 : Nat) (l1 : Int32) (l2 : Int32) (m : ml_M) : Option Int32 :=
    k4 l0 l1 (l2 + (1 : Int32)) m
def fX10_letters_4 : Nat → Nat → Int32 → Int32 → ml_M → Option Int32
  | 0, _, _, _, _ => none
  | fu + 1, l0, l1, l2, m =>
    if (ml_K m l0).1 = 10 then
    if (ml_I m l0 5) ≤ l2 then
    some l1
    else
    ml_let (ml_R m l0 4) fun a3817 =>
    if ml_in m a3817 29 l2 then
    ml_let (ml_R m a3817 l2.toNatClampNeg) fun a3819 =>
    if (ml_K m a3819).1 = 8 then
    ml_b1 (fX8_isOf a3819 (2 : Int32) m) fun r3822 =>
    if r3822 = 0 then
    fX10_letters_28 (fX10_letters_4 fu) l0 l1 l2 m
    else
    fX10_letters_28 (fX10_letters_4 fu) l0 (l1 + (1 : Int32)) l2 m
    else none
    else none
    else none
def fX10_letters (l0 : Nat) (m : ml_M) : Option Int32 :=
    fX10_letters_4 ml_fu l0 (0 : Int32) (0 : Int32) m
def fX10_rowsThere_22 (k4 : Nat → Int32 → Int32 → ml_M → Option Int32) (l0 : Nat) (l1 : Int32) (l2 : Int32) (m : ml_M) : Option Int32 :=
    k4 l0 l1 (l2 + (1 : Int32)) m
def fX10_rowsThere_4 : Nat → Nat → Int32 → Int32 → ml_M → Option Int32
  | 0, _, _, _, _ => none
  | fu + 1, l0, l1, l2, m =>
    if (6 : Int32) ≤ l2 then
    some l1
    else
    if (ml_K m l0).1 = 10 then
    ml_let (ml_R m l0 0) fun a3824 =>
    if ml_in m a3824 23 l2 then
    ml_let (ml_R m a3824 l2.toNatClampNeg) fun a3826 =>
    if a3826 = 0 then
    fX10_rowsThere_22 (fX10_rowsThere_4 fu) l0 l1 l2 m
    else
    fX10_rowsThere_22 (fX10_rowsThere_4 fu) l0 (l1 + (1 : Int32)) l2 m
    else none
    else none
def fX10_rowsThere (l0 : Nat) (m : ml_M) : Option Int32 :=
    fX10_rowsThere_4 ml_fu l0 (0 : Int32) (0 : Int32) m
def fX10_textsThere_21 (k4 : Nat → Int32 → Int32 → ml_M → Option Int32) (l0 : Nat) (l1 : Int32) (l2 : Int32) (m : ml_M) : Option Int32 :=
    k4 l0 l1 (l2 + (1 : Int32)) m
def fX10_textsThere_4 : Nat → Nat → Int32 → Int32 → ml_M → Option Int32
  | 0, _, _, _, _ => none
  | fu + 1, l0, l1, l2, m =>
    if (4 : Int32) ≤ l2 then
    some l1
    else
    if (ml_K m l0).1 = 10 then
    ml_let (ml_R m l0 1) fun a3828 =>
    if ml_in m a3828 24 l2 then
    ml_let (ml_R m a3828 l2.toNatClampNeg) fun a3830 =>
    if a3830 = 0 then
    fX10_textsThere_21 (fX10_textsThere_4 fu) l0 l1 l2 m
    else
    fX10_textsThere_21 (fX10_textsThere_4 fu) l0 (l1 + (1 : Int32)) l2 m
    else none
    else none
def fX10_textsThere (l0 : Nat) (m : ml_M) : Option Int32 :=
    fX10_textsThere_4 ml_fu l0 (0 : Int32) (0 : Int32) m
def fX10_count (l0 : Nat) (l1 : Int32) (m : ml_M) : Option Int32 :=
    if l1 = (0 : Int32) then
    if (ml_K m l0).1 = 10 then
    ml_let (ml_R m l0 2) fun a3832 =>
    if (ml_K m a3832).1 = 1 then
    some (ml_I m a3832 2)
    else none
    else none
    else if l1 = (1 : Int32) then
    if (ml_K m l0).1 = 10 then
    ml_let (ml_R m l0 2) fun a3837 =>
    if (ml_K m a3837).1 = 1 then
    some (ml_I m a3837 3)
    else none
    else none
    else if l1 = (2 : Int32) then
    if (ml_K m l0).1 = 10 then
    some (ml_I m l0 5)
    else none
    else if l1 = (3 : Int32) then
    if (ml_K m l0).1 = 10 then
    ml_b1 (fX10_letters l0 m) fun r3846 =>
    some r3846
    else none
    else if l1 = (4 : Int32) then
    if (ml_K m l0).1 = 10 then
    some (ml_I m l0 7)
    else none
    else if l1 = (5 : Int32) then
    if (ml_K m l0).1 = 10 then
    some (ml_I m l0 9)
    else none
    else if l1 = (6 : Int32) then
    if (ml_K m l0).1 = 10 then
    some (ml_I m l0 11)
    else none
    else if l1 = (7 : Int32) then
    if (ml_K m l0).1 = 10 then
    ml_b1 (fX10_rowsThere l0 m) fun r3860 =>
    some r3860
    else none
    else if l1 = (8 : Int32) then
    if (ml_K m l0).1 = 10 then
    ml_b1 (fX10_textsThere l0 m) fun r3865 =>
    some r3865
    else none
    else some (-1 : Int32)
def fX11_counted_32 (k4 : Nat → Int32 → Int32 → Int32 → ml_M → Option Int32) (l0 : Nat) (l1 : Int32) (l3 : Int32) (t0 : Int32) (t1 : Int32) (m : ml_M) : Option Int32 :=
    ml_let (t1 + t0) fun x3868 =>
    k4 l0 l1 x3868 (l3 + (1 : Int32)) m
def fX11_counted_31 (k4 : Nat → Int32 → Int32 → Int32 → ml_M → Option Int32) (l0 : Nat) (l1 : Int32) (l3 : Int32) (t0 : Int32) (m : ml_M) : Option Int32 :=
    fX11_counted_32 k4 l0 l1 l3 (0 : Int32) t0 m
def fX11_counted_69 (k42 : Nat → Int32 → Int32 → Int32 → ml_M → Option Int32) (l0 : Nat) (l1 : Int32) (l3 : Int32) (t0 : Int32) (t1 : Int32) (m : ml_M) : Option Int32 :=
    ml_let (t1 + t0) fun x3869 =>
    k42 l0 l1 x3869 (l3 + (1 : Int32)) m
def fX11_counted_68 (k42 : Nat → Int32 → Int32 → Int32 → ml_M → Option Int32) (l0 : Nat) (l1 : Int32) (l3 : Int32) (t0 : Int32) (m : ml_M) : Option Int32 :=
    fX11_counted_69 k42 l0 l1 l3 (0 : Int32) t0 m
def fX11_counted_105 (k79 : Nat → Int32 → Int32 → Int32 → ml_M → Option Int32) (l0 : Nat) (l1 : Int32) (l3 : Int32) (t0 : Int32) (t1 : Int32) (m : ml_M) : Option Int32 :=
    ml_let (t1 + t0) fun x3870 =>
    k79 l0 l1 x3870 (l3 + (1 : Int32)) m
def fX11_counted_104 (k79 : Nat → Int32 → Int32 → Int32 → ml_M → Option Int32) (l0 : Nat) (l1 : Int32) (l3 : Int32) (t0 : Int32) (m : ml_M) : Option Int32 :=
    fX11_counted_105 k79 l0 l1 l3 (0 : Int32) t0 m
def fX11_counted_113 (l0 : Nat) (l1 : Int32) (l2 : Int32) (m : ml_M) : Option Int32 :=
    if l1 = (0 : Int32) then
    if (ml_K m l0).1 = 11 then
    some (ml_I m l0 9)
    else none
    else if l1 = (1 : Int32) then
    if (ml_K m l0).1 = 11 then
    some (ml_I m l0 10)
    else none
    else if l1 = (2 : Int32) then
    if (ml_K m l0).1 = 11 then
    some (ml_I m l0 24)
    else none
    else if l1 = (3 : Int32) then
    some l2
    else if l1 = (4 : Int32) then
    if (ml_K m l0).1 = 11 then
    some (ml_I m l0 34)
    else none
    else if l1 = (5 : Int32) then
    if (ml_K m l0).1 = 11 then
    some (ml_I m l0 37)
    else none
    else if l1 = (6 : Int32) then
    if (ml_K m l0).1 = 11 then
    some (ml_I m l0 46)
    else none
    else some l2
def fX11_counted_79 : Nat → Nat → Int32 → Int32 → Int32 → ml_M → Option Int32
  | 0, _, _, _, _, _ => none
  | fu + 1, l0, l1, l2, l3, m =>
    if (4 : Int32) ≤ l3 then
    fX11_counted_113 l0 l1 l2 m
    else
    if l1 = (8 : Int32) then
    if (ml_K m l0).1 = 11 then
    ml_let (ml_R m l0 7) fun a3892 =>
    if ml_in m a3892 20 l3 then
    if (ml_I m a3892 l3.toNatClampNeg) < 0 then
    fX11_counted_104 (fX11_counted_79 fu) l0 l1 l3 l2 m
    else
    fX11_counted_105 (fX11_counted_79 fu) l0 l1 l3 (1 : Int32) l2 m
    else none
    else none
    else
    fX11_counted_104 (fX11_counted_79 fu) l0 l1 l3 l2 m
def fX11_counted_77 (l0 : Nat) (l1 : Int32) (l2 : Int32) (m : ml_M) : Option Int32 :=
    fX11_counted_79 ml_fu l0 l1 l2 (0 : Int32) m
def fX11_counted_42 : Nat → Nat → Int32 → Int32 → Int32 → ml_M → Option Int32
  | 0, _, _, _, _, _ => none
  | fu + 1, l0, l1, l2, l3, m =>
    if (6 : Int32) ≤ l3 then
    fX11_counted_77 l0 l1 l2 m
    else
    if l1 = (7 : Int32) then
    if (ml_K m l0).1 = 11 then
    ml_let (ml_R m l0 4) fun a3895 =>
    if ml_in m a3895 20 l3 then
    if (ml_I m a3895 l3.toNatClampNeg) < 0 then
    fX11_counted_68 (fX11_counted_42 fu) l0 l1 l3 l2 m
    else
    fX11_counted_69 (fX11_counted_42 fu) l0 l1 l3 (1 : Int32) l2 m
    else none
    else none
    else
    fX11_counted_68 (fX11_counted_42 fu) l0 l1 l3 l2 m
def fX11_counted_40 (l0 : Nat) (l1 : Int32) (l2 : Int32) (m : ml_M) : Option Int32 :=
    fX11_counted_42 ml_fu l0 l1 l2 (0 : Int32) m
def fX11_counted_4 : Nat → Nat → Int32 → Int32 → Int32 → ml_M → Option Int32
  | 0, _, _, _, _, _ => none
  | fu + 1, l0, l1, l2, l3, m =>
    if (ml_K m l0).1 = 11 then
    if (ml_I m l0 24) ≤ l3 then
    fX11_counted_40 l0 l1 l2 m
    else
    if l1 = (3 : Int32) then
    ml_b1 (fX11_isOf l0 l3 (2 : Int32) m) fun r3899 =>
    if r3899 = 0 then
    fX11_counted_31 (fX11_counted_4 fu) l0 l1 l3 l2 m
    else
    fX11_counted_32 (fX11_counted_4 fu) l0 l1 l3 (1 : Int32) l2 m
    else
    fX11_counted_31 (fX11_counted_4 fu) l0 l1 l3 l2 m
    else none
def fX11_counted (l0 : Nat) (l1 : Int32) (m : ml_M) : Option Int32 :=
    fX11_counted_4 ml_fu l0 l1 (0 : Int32) (0 : Int32) m
def fX11_count (l0 : Nat) (l1 : Int32) (m : ml_M) : Option Int32 :=
    ml_b1 (fX11_in l1 (0 : Int32) (8 : Int32) m) fun r3901 =>
    if r3901 = 0 then
    some (-1 : Int32)
    else
    if (ml_K m l0).1 = 11 then
    ml_b1 (fX11_counted l0 l1 m) fun r3904 =>
    some r3904
    else none
def fX10_finding (l0 : Nat) (m : ml_M) : Option Int32 :=
    if (ml_K m l0).1 = 10 then
    some (ml_I m l0 17)
    else none
def fX11_finding (l0 : Nat) (m : ml_M) : Option Int32 :=
    if (ml_K m l0).1 = 11 then
    some (ml_I m l0 0)
    else none
def fX10_findings (l0 : Nat) (l1 : Int32) (m : ml_M) : Option Int32 :=
    ml_b1 (fX10_within l1 (1 : Int32) (5 : Int32) m) fun r3908 =>
    if r3908 = 0 then
    some (-1 : Int32)
    else
    if (ml_K m l0).1 = 10 then
    ml_let (ml_R m l0 18) fun a3910 =>
    if ml_in m a3910 20 l1 then
    some (ml_I m a3910 l1.toNatClampNeg)
    else none
    else none
def fX11_findings (l0 : Nat) (l1 : Int32) (m : ml_M) : Option Int32 :=
    ml_b1 (fX11_in l1 (1 : Int32) (5 : Int32) m) fun r3913 =>
    if r3913 = 0 then
    some (-1 : Int32)
    else
    if (ml_K m l0).1 = 11 then
    ml_let (ml_R m l0 1) fun a3915 =>
    if ml_in m a3915 20 l1 then
    some (ml_I m a3915 l1.toNatClampNeg)
    else none
    else none
def fX10_mix (l0 : Int64) (l2 : Int32) (m : ml_M) : Option Int64 :=
    some (((31 : Int64) * l0) + l2.toInt64)
def fX10_mixHouse_45 (k5 : Nat → Int64 → Int32 → ml_M → Option Int64) (l0 : Nat) (l3 : Int64) (l5 : Int32) (m : ml_M) : Option Int64 :=
    k5 l0 l3 (l5 + (1 : Int32)) m
def fX10_mixHouse_20 (k5 : Nat → Int64 → Int32 → ml_M → Option Int64) : Nat → Nat → Int64 → Int32 → Int32 → ml_M → Option Int64
  | 0, _, _, _, _, _ => none
  | fu + 1, l0, l3, l5, l6, m =>
    if (4 : Int32) < l6 then
    fX10_mixHouse_45 k5 l0 l3 l5 m
    else
    if (ml_K m l0).1 = 10 then
    ml_b1 (fX10_lodgerFact l0 l5 l6 m) fun r3919 =>
    ml_b1 (fX10_mix l3 r3919 m) fun r3921 =>
    (fX10_mixHouse_20 k5 fu) l0 r3921 l5 (l6 + (1 : Int32)) m
    else none
def fX10_mixHouse_94 (k54 : Nat → Int64 → Int32 → ml_M → Option Int64) (l0 : Nat) (l3 : Int64) (l5 : Int32) (m : ml_M) : Option Int64 :=
    k54 l0 l3 (l5 + (1 : Int32)) m
def fX10_mixHouse_69 (k54 : Nat → Int64 → Int32 → ml_M → Option Int64) : Nat → Nat → Int64 → Int32 → Int32 → ml_M → Option Int64
  | 0, _, _, _, _, _ => none
  | fu + 1, l0, l3, l5, l6, m =>
    if (3 : Int32) < l6 then
    fX10_mixHouse_94 k54 l0 l3 l5 m
    else
    if (ml_K m l0).1 = 10 then
    ml_b1 (fX10_trunkFact l0 l5 l6 m) fun r3924 =>
    ml_b1 (fX10_mix l3 r3924 m) fun r3926 =>
    (fX10_mixHouse_69 k54 fu) l0 r3926 l5 (l6 + (1 : Int32)) m
    else none
def fX10_mixHouse_54 : Nat → Nat → Int64 → Int32 → ml_M → Option Int64
  | 0, _, _, _, _ => none
  | fu + 1, l0, l3, l5, m =>
    if (ml_K m l0).1 = 10 then
    ml_let (ml_R m l0 2) fun a3928 =>
    if (ml_K m a3928).1 = 1 then
    if (ml_I m a3928 3) ≤ l5 then
    some l3
    else
    fX10_mixHouse_69 (fX10_mixHouse_54 fu) ml_fu l0 l3 l5 (0 : Int32) m
    else none
    else none
def fX10_mixHouse_51 (l0 : Nat) (l3 : Int64) (m : ml_M) : Option Int64 :=
    fX10_mixHouse_54 ml_fu l0 l3 (0 : Int32) m
def fX10_mixHouse_5 : Nat → Nat → Int64 → Int32 → ml_M → Option Int64
  | 0, _, _, _, _ => none
  | fu + 1, l0, l3, l5, m =>
    if (ml_K m l0).1 = 10 then
    ml_let (ml_R m l0 2) fun a3931 =>
    if (ml_K m a3931).1 = 1 then
    if (ml_I m a3931 2) ≤ l5 then
    fX10_mixHouse_51 l0 l3 m
    else
    fX10_mixHouse_20 (fX10_mixHouse_5 fu) ml_fu l0 l3 l5 (0 : Int32) m
    else none
    else none
def fX10_mixHouse (l0 : Nat) (l1 : Int64) (m : ml_M) : Option Int64 :=
    fX10_mixHouse_5 ml_fu l0 l1 (0 : Int32) m
def fX10_mixThings_42 (k5 : Nat → Int64 → Int32 → ml_M → Option Int64) (l0 : Nat) (l3 : Int64) (l5 : Int32) (m : ml_M) : Option Int64 :=
    if (ml_K m l0).1 = 10 then
    ml_let (ml_R m l0 4) fun a3934 =>
    if ml_in m a3934 29 l5 then
    ml_let (ml_R m a3934 l5.toNatClampNeg) fun a3936 =>
    ml_let (ml_R m l0 4) fun a3937 =>
    if ml_in m a3937 29 l5 then
    ml_let (ml_R m a3937 l5.toNatClampNeg) fun a3939 =>
    if (ml_K m a3939).1 = 8 then
    if (ml_K m a3936).1 = 8 then
    ml_b1 (fX8_tells a3936 (ml_I m a3939 0) m) fun r3943 =>
    ml_b1 (fX10_mix l3 r3943 m) fun r3945 =>
    k5 l0 r3945 (l5 + (1 : Int32)) m
    else none
    else none
    else none
    else none
    else none
def fX10_mixThings_17 (k5 : Nat → Int64 → Int32 → ml_M → Option Int64) : Nat → Nat → Int64 → Int32 → Int32 → ml_M → Option Int64
  | 0, _, _, _, _, _ => none
  | fu + 1, l0, l3, l5, l6, m =>
    if (4 : Int32) < l6 then
    fX10_mixThings_42 k5 l0 l3 l5 m
    else
    if (ml_K m l0).1 = 10 then
    ml_b1 (fX10_thingFact l0 l5 l6 m) fun r3948 =>
    ml_b1 (fX10_mix l3 r3948 m) fun r3950 =>
    (fX10_mixThings_17 k5 fu) l0 r3950 l5 (l6 + (1 : Int32)) m
    else none
def fX10_mixThings_5 : Nat → Nat → Int64 → Int32 → ml_M → Option Int64
  | 0, _, _, _, _ => none
  | fu + 1, l0, l3, l5, m =>
    if (ml_K m l0).1 = 10 then
    if (ml_I m l0 5) ≤ l5 then
    some l3
    else
    fX10_mixThings_17 (fX10_mixThings_5 fu) ml_fu l0 l3 l5 (0 : Int32) m
    else none
def fX10_mixThings (l0 : Nat) (l1 : Int64) (m : ml_M) : Option Int64 :=
    fX10_mixThings_5 ml_fu l0 l1 (0 : Int32) m
def fX10_mixPapers_208 (k119 : Nat → Int64 → Int32 → ml_M → Option Int64) (l0 : Nat) (l3 : Int64) (l5 : Int32) (m : ml_M) : Option Int64 :=
    k119 l0 l3 (l5 + (1 : Int32)) m
def fX10_mixPapers_181 (k119 : Nat → Int64 → Int32 → ml_M → Option Int64) : Nat → Nat → Int64 → Int32 → Nat → Int32 → Int32 → ml_M → Option Int64
  | 0, _, _, _, _, _, _, _ => none
  | fu + 1, l0, l3, l5, l7, l8, l9, m =>
    if l8 ≤ l9 then
    fX10_mixPapers_208 k119 l0 l3 l5 m
    else
    if ml_in m l7 20 l9 then
    ml_let (ml_I m l7 l9.toNatClampNeg) fun x3953 =>
    ml_b1 (fX10_mix l3 x3953 m) fun r3955 =>
    (fX10_mixPapers_181 k119 fu) l0 r3955 l5 l7 l8 (l9 + (1 : Int32)) m
    else none
def fX10_mixPapers_119 : Nat → Nat → Int64 → Int32 → ml_M → Option Int64
  | 0, _, _, _, _ => none
  | fu + 1, l0, l3, l5, m =>
    if (ml_K m l0).1 = 10 then
    if (ml_I m l0 11) ≤ l5 then
    some l3
    else
    ml_let (ml_R m l0 10) fun a3957 =>
    if ml_in m a3957 26 l5 then
    ml_let (ml_R m a3957 l5.toNatClampNeg) fun a3959 =>
    if (ml_K m a3959).1 = 2 then
    ml_b1 (fX10_mix l3 (ml_I m a3959 0) m) fun r3962 =>
    ml_b1 (fX10_mix r3962 (ml_I m a3959 1) m) fun r3964 =>
    ml_let (ml_R m a3959 2) fun a3965 =>
    if (ml_K m a3965).1 = 20 then
    ml_b1 (fX10_mix r3964 ((Int32.ofNat (ml_K m a3965).2) / (2 : Int32)) m) fun r3968 =>
    ml_let (ml_R m a3959 2) fun a3969 =>
    if (ml_K m a3969).1 = 20 then
    ml_let (Int32.ofNat (ml_K m a3969).2) fun x3971 =>
    fX10_mixPapers_181 (fX10_mixPapers_119 fu) ml_fu l0 r3968 l5 a3969 x3971 (0 : Int32) m
    else none
    else none
    else none
    else none
    else none
def fX10_mixPapers_116 (l0 : Nat) (l3 : Int64) (m : ml_M) : Option Int64 :=
    fX10_mixPapers_119 ml_fu l0 l3 (0 : Int32) m
def fX10_mixPapers_58 : Nat → Nat → Int64 → Int32 → ml_M → Option Int64
  | 0, _, _, _, _ => none
  | fu + 1, l0, l3, l5, m =>
    if (ml_K m l0).1 = 10 then
    if (ml_I m l0 9) ≤ l5 then
    fX10_mixPapers_116 l0 l3 m
    else
    ml_let (ml_R m l0 8) fun a3973 =>
    if ml_in m a3973 25 l5 then
    ml_let (ml_R m a3973 l5.toNatClampNeg) fun a3975 =>
    if (ml_K m a3975).1 = 0 then
    ml_b1 (fX10_mix l3 (ml_I m a3975 0) m) fun r3978 =>
    ml_b1 (fX10_mix r3978 (ml_I m a3975 1) m) fun r3980 =>
    ml_b1 (fX10_mix r3980 (ml_I m a3975 2) m) fun r3982 =>
    ml_b1 (fX10_mix r3982 (ml_I m a3975 3) m) fun r3984 =>
    (fX10_mixPapers_58 fu) l0 r3984 (l5 + (1 : Int32)) m
    else none
    else none
    else none
def fX10_mixPapers_55 (l0 : Nat) (l3 : Int64) (m : ml_M) : Option Int64 :=
    fX10_mixPapers_58 ml_fu l0 l3 (0 : Int32) m
def fX10_mixPapers_5 : Nat → Nat → Int64 → Int32 → ml_M → Option Int64
  | 0, _, _, _, _ => none
  | fu + 1, l0, l3, l5, m =>
    if (ml_K m l0).1 = 10 then
    if (ml_I m l0 7) ≤ l5 then
    fX10_mixPapers_55 l0 l3 m
    else
    ml_let (ml_R m l0 6) fun a3986 =>
    if ml_in m a3986 27 l5 then
    ml_let (ml_R m a3986 l5.toNatClampNeg) fun a3988 =>
    if (ml_K m a3988).1 = 5 then
    ml_b1 (fX10_mix l3 (ml_I m a3988 0) m) fun r3991 =>
    ml_b1 (fX10_mix r3991 (ml_I m a3988 1) m) fun r3993 =>
    ml_b1 (fX10_mix r3993 (ml_I m a3988 2) m) fun r3995 =>
    (fX10_mixPapers_5 fu) l0 r3995 (l5 + (1 : Int32)) m
    else none
    else none
    else none
def fX10_mixPapers (l0 : Nat) (l1 : Int64) (m : ml_M) : Option Int64 :=
    fX10_mixPapers_5 ml_fu l0 l1 (0 : Int32) m
def fX10_mixRows_85 (k5 : Nat → Int64 → Int32 → ml_M → Option Int64) (l0 : Nat) (l3 : Int64) (l5 : Int32) (m : ml_M) : Option Int64 :=
    k5 l0 l3 (l5 + (1 : Int32)) m
def fX10_mixRows_58 (k5 : Nat → Int64 → Int32 → ml_M → Option Int64) : Nat → Nat → Int64 → Int32 → Nat → Int32 → Int32 → ml_M → Option Int64
  | 0, _, _, _, _, _, _, _ => none
  | fu + 1, l0, l3, l5, l7, l8, l9, m =>
    if l8 ≤ l9 then
    fX10_mixRows_85 k5 l0 l3 l5 m
    else
    if ml_in m l7 20 l9 then
    ml_let (ml_I m l7 l9.toNatClampNeg) fun x3997 =>
    ml_b1 (fX10_mix l3 x3997 m) fun r3999 =>
    (fX10_mixRows_58 k5 fu) l0 r3999 l5 l7 l8 (l9 + (1 : Int32)) m
    else none
def fX10_mixRows_34 (k5 : Nat → Int64 → Int32 → ml_M → Option Int64) (l0 : Nat) (l5 : Int32) (l6 : Nat) (t0 : Int32) (t1 : Int64) (m : ml_M) : Option Int64 :=
    ml_b1 (fX10_mix t1 t0 m) fun r4001 =>
    if l6 = 0 then
    fX10_mixRows_85 k5 l0 r4001 l5 m
    else
    if (ml_K m l6).1 = 20 then
    ml_let (Int32.ofNat (ml_K m l6).2) fun x4003 =>
    fX10_mixRows_58 k5 ml_fu l0 r4001 l5 l6 x4003 (0 : Int32) m
    else none
def fX10_mixRows_173 (k94 : Nat → Int64 → Int32 → ml_M → Option Int64) (l0 : Nat) (l3 : Int64) (l5 : Int32) (m : ml_M) : Option Int64 :=
    k94 l0 l3 (l5 + (1 : Int32)) m
def fX10_mixRows_146 (k94 : Nat → Int64 → Int32 → ml_M → Option Int64) : Nat → Nat → Int64 → Int32 → Nat → Int32 → Int32 → ml_M → Option Int64
  | 0, _, _, _, _, _, _, _ => none
  | fu + 1, l0, l3, l5, l7, l8, l9, m =>
    if l8 ≤ l9 then
    fX10_mixRows_173 k94 l0 l3 l5 m
    else
    if ml_in m l7 21 l9 then
    ml_let (ml_I m l7 l9.toNatClampNeg) fun x4005 =>
    ml_b1 (fX10_mix l3 x4005 m) fun r4007 =>
    (fX10_mixRows_146 k94 fu) l0 r4007 l5 l7 l8 (l9 + (1 : Int32)) m
    else none
def fX10_mixRows_122 (k94 : Nat → Int64 → Int32 → ml_M → Option Int64) (l0 : Nat) (l5 : Int32) (l6 : Nat) (t0 : Int32) (t1 : Int64) (m : ml_M) : Option Int64 :=
    ml_b1 (fX10_mix t1 t0 m) fun r4009 =>
    if l6 = 0 then
    fX10_mixRows_173 k94 l0 r4009 l5 m
    else
    if (ml_K m l6).1 = 21 then
    ml_let (Int32.ofNat (ml_K m l6).2) fun x4011 =>
    fX10_mixRows_146 k94 ml_fu l0 r4009 l5 l6 x4011 (0 : Int32) m
    else none
def fX10_mixRows_94 : Nat → Nat → Int64 → Int32 → ml_M → Option Int64
  | 0, _, _, _, _ => none
  | fu + 1, l0, l3, l5, m =>
    if (4 : Int32) ≤ l5 then
    some l3
    else
    if (ml_K m l0).1 = 10 then
    ml_let (ml_R m l0 1) fun a4013 =>
    if ml_in m a4013 24 l5 then
    ml_let (ml_R m a4013 l5.toNatClampNeg) fun a4015 =>
    if a4015 = 0 then
    fX10_mixRows_122 (fX10_mixRows_94 fu) l0 l5 a4015 (-1 : Int32) l3 m
    else
    if (ml_K m a4015).1 = 21 then
    fX10_mixRows_122 (fX10_mixRows_94 fu) l0 l5 a4015 (Int32.ofNat (ml_K m a4015).2) l3 m
    else none
    else none
    else none
def fX10_mixRows_91 (l0 : Nat) (l3 : Int64) (m : ml_M) : Option Int64 :=
    fX10_mixRows_94 ml_fu l0 l3 (0 : Int32) m
def fX10_mixRows_5 : Nat → Nat → Int64 → Int32 → ml_M → Option Int64
  | 0, _, _, _, _ => none
  | fu + 1, l0, l3, l5, m =>
    if (6 : Int32) ≤ l5 then
    fX10_mixRows_91 l0 l3 m
    else
    if (ml_K m l0).1 = 10 then
    ml_let (ml_R m l0 0) fun a4018 =>
    if ml_in m a4018 23 l5 then
    ml_let (ml_R m a4018 l5.toNatClampNeg) fun a4020 =>
    if a4020 = 0 then
    fX10_mixRows_34 (fX10_mixRows_5 fu) l0 l5 a4020 (-1 : Int32) l3 m
    else
    if (ml_K m a4020).1 = 20 then
    fX10_mixRows_34 (fX10_mixRows_5 fu) l0 l5 a4020 (Int32.ofNat (ml_K m a4020).2) l3 m
    else none
    else none
    else none
def fX10_mixRows (l0 : Nat) (l1 : Int64) (m : ml_M) : Option Int64 :=
    fX10_mixRows_5 ml_fu l0 l1 (0 : Int32) m
def fX10_digest_28 (l0 : Nat) (l1 : Int64) (m : ml_M) : Option Int64 :=
    if (ml_K m l0).1 = 10 then
    ml_b1 (fX10_mix l1 (ml_I m l0 3) m) fun r4024 =>
    ml_b1 (fX10_mixHouse l0 r4024 m) fun r4026 =>
    ml_b1 (fX10_mixThings l0 r4026 m) fun r4028 =>
    ml_b1 (fX10_mixPapers l0 r4028 m) fun r4030 =>
    ml_b1 (fX10_mixRows l0 r4030 m) fun r4032 =>
    some r4032
    else none
def fX10_digest_6 : Nat → Nat → Int64 → Int32 → ml_M → Option Int64
  | 0, _, _, _, _ => none
  | fu + 1, l0, l1, l3, m =>
    if (8 : Int32) < l3 then
    fX10_digest_28 l0 l1 m
    else
    if (ml_K m l0).1 = 10 then
    ml_b1 (fX10_count l0 l3 m) fun r4035 =>
    ml_b1 (fX10_mix l1 r4035 m) fun r4037 =>
    (fX10_digest_6 fu) l0 r4037 (l3 + (1 : Int32)) m
    else none
def fX10_digest (l0 : Nat) (m : ml_M) : Option Int64 :=
    fX10_digest_6 ml_fu l0 (17 : Int64) (0 : Int32) m
def fX11_mix (l0 : Nat) (l1 : Int64) (m : ml_M) : Option ml_M :=
    if (ml_K m l0).1 = 11 then
    ml_let (ml_sJ m l0 48 (((31 : Int64) * (ml_J m l0 48)) + l1)) fun m4039 =>
    some m4039
    else none
def fX11_mixRoom_72 (k40 : Nat → Int32 → ml_M → Option ml_M) (l0 : Nat) (l1 : Int32) (m : ml_M) : Option ml_M :=
    k40 l0 (l1 + (1 : Int32)) m
def fX11_mixRoom_50 (k40 : Nat → Int32 → ml_M → Option ml_M) : Nat → Nat → Int32 → Int32 → ml_M → Option ml_M
  | 0, _, _, _, _ => none
  | fu + 1, l0, l1, l2, m =>
    if (4 : Int32) ≤ l2 then
    fX11_mixRoom_72 k40 l0 l1 m
    else
    if (ml_K m l0).1 = 11 then
    ml_b1 (fX11_trunkTells l0 l1 l2 m) fun r4043 =>
    ml_b1 (fX11_mix l0 r4043.toInt64 m) fun m4045 =>
    (fX11_mixRoom_50 k40 fu) l0 l1 (l2 + (1 : Int32)) m4045
    else none
def fX11_mixRoom_117 (k80 : Nat → Int32 → ml_M → Option ml_M) (l0 : Nat) (l1 : Int32) (m : ml_M) : Option ml_M :=
    if (ml_K m l0).1 = 11 then
    ml_b1 (fX11_kind l0 l1 m) fun r4048 =>
    ml_b1 (fX11_markOf l0 l1 r4048 m) fun r4050 =>
    ml_b1 (fX11_mix l0 r4050.toInt64 m) fun m4052 =>
    k80 l0 (l1 + (1 : Int32)) m4052
    else none
def fX11_mixRoom_90 (k80 : Nat → Int32 → ml_M → Option ml_M) : Nat → Nat → Int32 → Int32 → ml_M → Option ml_M
  | 0, _, _, _, _ => none
  | fu + 1, l0, l1, l2, m =>
    if (5 : Int32) ≤ l2 then
    fX11_mixRoom_117 k80 l0 l1 m
    else
    if (ml_K m l0).1 = 11 then
    ml_let (ml_R m l0 25) fun a4054 =>
    if ml_in m a4054 20 (((7 : Int32) * l1) + l2) then
    ml_b1 (fX11_mix l0 ((ml_I m a4054 (((7 : Int32) * l1) + l2).toNatClampNeg).toInt64) m) fun m4057 =>
    (fX11_mixRoom_90 k80 fu) l0 l1 (l2 + (1 : Int32)) m4057
    else none
    else none
def fX11_mixRoom_249 (k198 : Nat → Int32 → ml_M → Option ml_M) (l0 : Nat) (l1 : Int32) (m : ml_M) : Option ml_M :=
    k198 l0 (l1 + (1 : Int32)) m
def fX11_mixRoom_208 (k198 : Nat → Int32 → ml_M → Option ml_M) : Nat → Nat → Int32 → Int32 → ml_M → Option ml_M
  | 0, _, _, _, _ => none
  | fu + 1, l0, l1, l2, m =>
    if (ml_K m l0).1 = 11 then
    ml_let (ml_R m l0 47) fun a4059 =>
    if ml_in m a4059 20 (((51 : Int32) * l1) + (2 : Int32)) then
    if ((3 : Int32) + ((2 : Int32) * (ml_I m a4059 (((51 : Int32) * l1) + (2 : Int32)).toNatClampNeg))) ≤ l2 then
    fX11_mixRoom_249 k198 l0 l1 m
    else
    ml_let (ml_R m l0 47) fun a4061 =>
    if ml_in m a4061 20 (((51 : Int32) * l1) + l2) then
    ml_b1 (fX11_mix l0 ((ml_I m a4061 (((51 : Int32) * l1) + l2).toNatClampNeg).toInt64) m) fun m4064 =>
    (fX11_mixRoom_208 k198 fu) l0 l1 (l2 + (1 : Int32)) m4064
    else none
    else none
    else none
def fX11_mixRoom_198 : Nat → Nat → Int32 → ml_M → Option ml_M
  | 0, _, _, _ => none
  | fu + 1, l0, l1, m =>
    if (ml_K m l0).1 = 11 then
    if (ml_I m l0 46) ≤ l1 then
    some m
    else
    fX11_mixRoom_208 (fX11_mixRoom_198 fu) ml_fu l0 l1 (0 : Int32) m
    else none
def fX11_mixRoom_196 (l0 : Nat) (m : ml_M) : Option ml_M :=
    fX11_mixRoom_198 ml_fu l0 (0 : Int32) m
def fX11_mixRoom_169 : Nat → Nat → Int32 → ml_M → Option ml_M
  | 0, _, _, _ => none
  | fu + 1, l0, l1, m =>
    if (ml_K m l0).1 = 11 then
    if ((4 : Int32) * (ml_I m l0 37)) ≤ l1 then
    fX11_mixRoom_196 l0 m
    else
    ml_let (ml_R m l0 38) fun a4067 =>
    if ml_in m a4067 20 l1 then
    ml_b1 (fX11_mix l0 ((ml_I m a4067 l1.toNatClampNeg).toInt64) m) fun m4070 =>
    (fX11_mixRoom_169 fu) l0 (l1 + (1 : Int32)) m4070
    else none
    else none
def fX11_mixRoom_167 (l0 : Nat) (m : ml_M) : Option ml_M :=
    fX11_mixRoom_169 ml_fu l0 (0 : Int32) m
def fX11_mixRoom_140 : Nat → Nat → Int32 → ml_M → Option ml_M
  | 0, _, _, _ => none
  | fu + 1, l0, l1, m =>
    if (ml_K m l0).1 = 11 then
    if ((3 : Int32) * (ml_I m l0 34)) ≤ l1 then
    fX11_mixRoom_167 l0 m
    else
    ml_let (ml_R m l0 35) fun a4072 =>
    if ml_in m a4072 20 l1 then
    ml_b1 (fX11_mix l0 ((ml_I m a4072 l1.toNatClampNeg).toInt64) m) fun m4075 =>
    (fX11_mixRoom_140 fu) l0 (l1 + (1 : Int32)) m4075
    else none
    else none
def fX11_mixRoom_138 (l0 : Nat) (m : ml_M) : Option ml_M :=
    fX11_mixRoom_140 ml_fu l0 (0 : Int32) m
def fX11_mixRoom_80 : Nat → Nat → Int32 → ml_M → Option ml_M
  | 0, _, _, _ => none
  | fu + 1, l0, l1, m =>
    if (ml_K m l0).1 = 11 then
    if (ml_I m l0 24) ≤ l1 then
    fX11_mixRoom_138 l0 m
    else
    fX11_mixRoom_90 (fX11_mixRoom_80 fu) ml_fu l0 l1 (0 : Int32) m
    else none
def fX11_mixRoom_78 (l0 : Nat) (m : ml_M) : Option ml_M :=
    fX11_mixRoom_80 ml_fu l0 (0 : Int32) m
def fX11_mixRoom_40 : Nat → Nat → Int32 → ml_M → Option ml_M
  | 0, _, _, _ => none
  | fu + 1, l0, l1, m =>
    if (ml_K m l0).1 = 11 then
    if (ml_I m l0 10) ≤ l1 then
    fX11_mixRoom_78 l0 m
    else
    fX11_mixRoom_50 (fX11_mixRoom_40 fu) ml_fu l0 l1 (0 : Int32) m
    else none
def fX11_mixRoom_38 (l0 : Nat) (m : ml_M) : Option ml_M :=
    fX11_mixRoom_40 ml_fu l0 (0 : Int32) m
def fX11_mixRoom_11 : Nat → Nat → Int32 → ml_M → Option ml_M
  | 0, _, _, _ => none
  | fu + 1, l0, l1, m =>
    if (ml_K m l0).1 = 11 then
    if ((5 : Int32) * (ml_I m l0 9)) ≤ l1 then
    fX11_mixRoom_38 l0 m
    else
    ml_let (ml_R m l0 12) fun a4079 =>
    if ml_in m a4079 20 l1 then
    ml_b1 (fX11_mix l0 ((ml_I m a4079 l1.toNatClampNeg).toInt64) m) fun m4082 =>
    (fX11_mixRoom_11 fu) l0 (l1 + (1 : Int32)) m4082
    else none
    else none
def fX11_mixRoom (l0 : Nat) (m : ml_M) : Option ml_M :=
    if (ml_K m l0).1 = 11 then
    ml_b1 (fX11_mix l0 ((ml_I m l0 23).toInt64) m) fun m4085 =>
    fX11_mixRoom_11 ml_fu l0 (0 : Int32) m4085
    else none
def fX11_digest_83 (k37 : Nat → Int32 → ml_M → Option (Int64 × ml_M)) (l0 : Nat) (l1 : Int32) (m : ml_M) : Option (Int64 × ml_M) :=
    k37 l0 (l1 + (1 : Int32)) m
def fX11_digest_56 (k37 : Nat → Int32 → ml_M → Option (Int64 × ml_M)) : Nat → Nat → Int32 → Int32 → ml_M → Option (Int64 × ml_M)
  | 0, _, _, _, _ => none
  | fu + 1, l0, l1, l2, m =>
    if (ml_K m l0).1 = 11 then
    ml_let (ml_R m l0 4) fun a4087 =>
    if ml_in m a4087 20 l1 then
    if (ml_I m a4087 l1.toNatClampNeg) ≤ l2 then
    fX11_digest_83 k37 l0 l1 m
    else
    ml_b1 (fX11_rowAt l0 l1 l2 m) fun r4090 =>
    ml_b1 (fX11_mix l0 r4090.toInt64 m) fun m4092 =>
    (fX11_digest_56 k37 fu) l0 l1 (l2 + (1 : Int32)) m4092
    else none
    else none
def fX11_digest_136 (k91 : Nat → Int32 → ml_M → Option (Int64 × ml_M)) (l0 : Nat) (l1 : Int32) (m : ml_M) : Option (Int64 × ml_M) :=
    k91 l0 (l1 + (1 : Int32)) m
def fX11_digest_109 (k91 : Nat → Int32 → ml_M → Option (Int64 × ml_M)) : Nat → Nat → Int32 → Int32 → ml_M → Option (Int64 × ml_M)
  | 0, _, _, _, _ => none
  | fu + 1, l0, l1, l2, m =>
    if (ml_K m l0).1 = 11 then
    ml_let (ml_R m l0 7) fun a4094 =>
    if ml_in m a4094 20 l1 then
    if (ml_I m a4094 l1.toNatClampNeg) ≤ l2 then
    fX11_digest_136 k91 l0 l1 m
    else
    ml_b1 (fX11_byteAt l0 l1 l2 m) fun r4097 =>
    ml_b1 (fX11_mix l0 r4097.toInt64 m) fun m4099 =>
    (fX11_digest_109 k91 fu) l0 l1 (l2 + (1 : Int32)) m4099
    else none
    else none
def fX11_digest_142 (l0 : Nat) (m : ml_M) : Option (Int64 × ml_M) :=
    if (ml_K m l0).1 = 11 then
    some ((ml_J m l0 48), m)
    else none
def fX11_digest_91 : Nat → Nat → Int32 → ml_M → Option (Int64 × ml_M)
  | 0, _, _, _ => none
  | fu + 1, l0, l1, m =>
    if (4 : Int32) ≤ l1 then
    fX11_digest_142 l0 m
    else
    if (ml_K m l0).1 = 11 then
    ml_let (ml_R m l0 7) fun a4102 =>
    if ml_in m a4102 20 l1 then
    ml_b1 (fX11_mix l0 ((ml_I m a4102 l1.toNatClampNeg).toInt64) m) fun m4105 =>
    fX11_digest_109 (fX11_digest_91 fu) ml_fu l0 l1 (0 : Int32) m4105
    else none
    else none
def fX11_digest_89 (l0 : Nat) (m : ml_M) : Option (Int64 × ml_M) :=
    fX11_digest_91 ml_fu l0 (0 : Int32) m
def fX11_digest_37 : Nat → Nat → Int32 → ml_M → Option (Int64 × ml_M)
  | 0, _, _, _ => none
  | fu + 1, l0, l1, m =>
    if (6 : Int32) ≤ l1 then
    fX11_digest_89 l0 m
    else
    if (ml_K m l0).1 = 11 then
    ml_let (ml_R m l0 4) fun a4107 =>
    if ml_in m a4107 20 l1 then
    ml_b1 (fX11_mix l0 ((ml_I m a4107 l1.toNatClampNeg).toInt64) m) fun m4110 =>
    fX11_digest_56 (fX11_digest_37 fu) ml_fu l0 l1 (0 : Int32) m4110
    else none
    else none
def fX11_digest_31 (l0 : Nat) (m : ml_M) : Option (Int64 × ml_M) :=
    if (ml_K m l0).1 = 11 then
    ml_b1 (fX11_mixRoom l0 m) fun m4113 =>
    fX11_digest_37 ml_fu l0 (0 : Int32) m4113
    else none
def fX11_digest_9 : Nat → Nat → Int32 → ml_M → Option (Int64 × ml_M)
  | 0, _, _, _ => none
  | fu + 1, l0, l1, m =>
    if (9 : Int32) ≤ l1 then
    fX11_digest_31 l0 m
    else
    if (ml_K m l0).1 = 11 then
    ml_b1 (fX11_counted l0 l1 m) fun r4116 =>
    ml_b1 (fX11_mix l0 r4116.toInt64 m) fun m4118 =>
    (fX11_digest_9 fu) l0 (l1 + (1 : Int32)) m4118
    else none
def fX11_digest (l0 : Nat) (m : ml_M) : Option (Int64 × ml_M) :=
    if (ml_K m l0).1 = 11 then
    ml_let (ml_sJ m l0 48 (17 : Int64)) fun m4120 =>
    fX11_digest_9 ml_fu l0 (0 : Int32) m4120
    else none

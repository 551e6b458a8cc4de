/-! the plain functions of the reference, and of calls that this law does not make (as in whole) -/
def fX11_init_258 : Nat → Nat → Int32 → ml_M → Option ml_M
  | 0, _, _, _ => none
  | fu + 1, l0, l1, m =>
    if (4 : Int32) ≤ l1 then
    some m
    else
    if (ml_K m l0).1 = 11 then
    ml_let (ml_R m l0 7) fun a270 =>
    if ml_in m a270 20 l1 then
    ml_let (ml_sI m a270 l1.toNatClampNeg (-1 : Int32)) fun m272 =>
    (fX11_init_258 fu) l0 (l1 + (1 : Int32)) m272
    else none
    else none
def fX11_init_256 (l0 : Nat) (m : ml_M) : Option ml_M :=
    fX11_init_258 ml_fu l0 (0 : Int32) m
def fX11_init_237 : Nat → Nat → Int32 → ml_M → Option ml_M
  | 0, _, _, _ => none
  | fu + 1, l0, l1, m =>
    if (6 : Int32) ≤ l1 then
    fX11_init_256 l0 m
    else
    if (ml_K m l0).1 = 11 then
    ml_let (ml_R m l0 4) fun a275 =>
    if ml_in m a275 20 l1 then
    ml_let (ml_sI m a275 l1.toNatClampNeg (-1 : Int32)) fun m277 =>
    (fX11_init_237 fu) l0 (l1 + (1 : Int32)) m277
    else none
    else none
def fX11_init (l0 : Nat) (m : ml_M) : Option ml_M :=
    if l0 ≠ 0 then
    ml_let (ml_n m + 1) fun a280 =>
    ml_let (ml_al m 20 (6 : Int32).toNatClampNeg (6 : Int32).toNatClampNeg) fun m281 =>
    if (ml_K m281 l0).1 = 11 then
    ml_let (ml_sR m281 l0 1 a280) fun m285 =>
    ml_let (ml_n m285 + 1) fun a287 =>
    ml_let (ml_al m285 20 (6 : Int32).toNatClampNeg (6 : Int32).toNatClampNeg) fun m288 =>
    if (ml_K m288 l0).1 = 11 then
    ml_let (ml_sR m288 l0 4 a287) fun m292 =>
    ml_let (ml_n m292 + 1) fun a294 =>
    ml_let (ml_al m292 20 (288 : Int32).toNatClampNeg (288 : Int32).toNatClampNeg) fun m295 =>
    if (ml_K m295 l0).1 = 11 then
    ml_let (ml_sR m295 l0 5 a294) fun m299 =>
    ml_let (ml_n m299 + 1) fun a301 =>
    ml_let (ml_al m299 20 (48 : Int32).toNatClampNeg (48 : Int32).toNatClampNeg) fun m302 =>
    if (ml_K m302 l0).1 = 11 then
    ml_let (ml_sR m302 l0 6 a301) fun m306 =>
    ml_let (ml_n m306 + 1) fun a308 =>
    ml_let (ml_al m306 20 (4 : Int32).toNatClampNeg (4 : Int32).toNatClampNeg) fun m309 =>
    if (ml_K m309 l0).1 = 11 then
    ml_let (ml_sR m309 l0 7 a308) fun m313 =>
    ml_let (ml_n m313 + 1) fun a315 =>
    ml_let (ml_al m313 21 (480 : Int32).toNatClampNeg (480 : Int32).toNatClampNeg) fun m316 =>
    if (ml_K m316 l0).1 = 11 then
    ml_let (ml_sR m316 l0 8 a315) fun m320 =>
    ml_let (ml_n m320 + 1) fun a322 =>
    ml_let (ml_al m320 20 (40 : Int32).toNatClampNeg (40 : Int32).toNatClampNeg) fun m323 =>
    if (ml_K m323 l0).1 = 11 then
    ml_let (ml_sR m323 l0 12 a322) fun m327 =>
    ml_let (ml_n m327 + 1) fun a329 =>
    ml_let (ml_al m327 20 (16 : Int32).toNatClampNeg (16 : Int32).toNatClampNeg) fun m330 =>
    if (ml_K m330 l0).1 = 11 then
    ml_let (ml_sR m330 l0 13 a329) fun m334 =>
    ml_let (ml_n m334 + 1) fun a336 =>
    ml_let (ml_al m334 20 (24 : Int32).toNatClampNeg (24 : Int32).toNatClampNeg) fun m337 =>
    if (ml_K m337 l0).1 = 11 then
    ml_let (ml_sR m337 l0 14 a336) fun m341 =>
    ml_let (ml_n m341 + 1) fun a343 =>
    ml_let (ml_al m341 20 (40 : Int32).toNatClampNeg (40 : Int32).toNatClampNeg) fun m344 =>
    if (ml_K m344 l0).1 = 11 then
    ml_let (ml_sR m344 l0 20 a343) fun m348 =>
    ml_let (ml_n m348 + 1) fun a350 =>
    ml_let (ml_al m348 20 (16 : Int32).toNatClampNeg (16 : Int32).toNatClampNeg) fun m351 =>
    if (ml_K m351 l0).1 = 11 then
    ml_let (ml_sR m351 l0 21 a350) fun m355 =>
    ml_let (ml_n m355 + 1) fun a357 =>
    ml_let (ml_al m355 20 (24 : Int32).toNatClampNeg (24 : Int32).toNatClampNeg) fun m358 =>
    if (ml_K m358 l0).1 = 11 then
    ml_let (ml_sR m358 l0 22 a357) fun m362 =>
    ml_let (ml_n m362 + 1) fun a364 =>
    ml_let (ml_al m362 20 (140 : Int32).toNatClampNeg (140 : Int32).toNatClampNeg) fun m365 =>
    if (ml_K m365 l0).1 = 11 then
    ml_let (ml_sR m365 l0 25 a364) fun m369 =>
    ml_let (ml_n m369 + 1) fun a371 =>
    ml_let (ml_al m369 20 (256 : Int32).toNatClampNeg (256 : Int32).toNatClampNeg) fun m372 =>
    if (ml_K m372 l0).1 = 11 then
    ml_let (ml_sR m372 l0 26 a371) fun m376 =>
    ml_let (ml_n m376 + 1) fun a378 =>
    ml_let (ml_al m376 20 (8 : Int32).toNatClampNeg (8 : Int32).toNatClampNeg) fun m379 =>
    if (ml_K m379 l0).1 = 11 then
    ml_let (ml_sR m379 l0 27 a378) fun m383 =>
    ml_let (ml_n m383 + 1) fun a385 =>
    ml_let (ml_al m383 20 (8 : Int32).toNatClampNeg (8 : Int32).toNatClampNeg) fun m386 =>
    if (ml_K m386 l0).1 = 11 then
    ml_let (ml_sR m386 l0 29 a385) fun m390 =>
    ml_let (ml_n m390 + 1) fun a392 =>
    ml_let (ml_al m390 20 (64 : Int32).toNatClampNeg (64 : Int32).toNatClampNeg) fun m393 =>
    if (ml_K m393 l0).1 = 11 then
    ml_let (ml_sR m393 l0 31 a392) fun m397 =>
    ml_let (ml_n m397 + 1) fun a399 =>
    ml_let (ml_al m397 20 (24 : Int32).toNatClampNeg (24 : Int32).toNatClampNeg) fun m400 =>
    if (ml_K m400 l0).1 = 11 then
    ml_let (ml_sR m400 l0 35 a399) fun m404 =>
    ml_let (ml_n m404 + 1) fun a406 =>
    ml_let (ml_al m404 20 (2304 : Int32).toNatClampNeg (2304 : Int32).toNatClampNeg) fun m407 =>
    if (ml_K m407 l0).1 = 11 then
    ml_let (ml_sR m407 l0 36 a406) fun m411 =>
    ml_let (ml_n m411 + 1) fun a413 =>
    ml_let (ml_al m411 20 (40 : Int32).toNatClampNeg (40 : Int32).toNatClampNeg) fun m414 =>
    if (ml_K m414 l0).1 = 11 then
    ml_let (ml_sR m414 l0 38 a413) fun m418 =>
    ml_let (ml_n m418 + 1) fun a420 =>
    ml_let (ml_al m418 20 (10240 : Int32).toNatClampNeg (10240 : Int32).toNatClampNeg) fun m421 =>
    if (ml_K m421 l0).1 = 11 then
    ml_let (ml_sR m421 l0 39 a420) fun m425 =>
    ml_let (ml_n m425 + 1) fun a427 =>
    ml_let (ml_al m425 20 (10240 : Int32).toNatClampNeg (10240 : Int32).toNatClampNeg) fun m428 =>
    if (ml_K m428 l0).1 = 11 then
    ml_let (ml_sR m428 l0 40 a427) fun m432 =>
    ml_let (ml_n m432 + 1) fun a434 =>
    ml_let (ml_al m432 20 (20 : Int32).toNatClampNeg (20 : Int32).toNatClampNeg) fun m435 =>
    if (ml_K m435 l0).1 = 11 then
    ml_let (ml_sR m435 l0 42 a434) fun m439 =>
    ml_let (ml_n m439 + 1) fun a441 =>
    ml_let (ml_al m439 20 (10240 : Int32).toNatClampNeg (10240 : Int32).toNatClampNeg) fun m442 =>
    if (ml_K m442 l0).1 = 11 then
    ml_let (ml_sR m442 l0 43 a441) fun m446 =>
    ml_let (ml_n m446 + 1) fun a448 =>
    ml_let (ml_al m446 22 (1024 : Int32).toNatClampNeg (1024 : Int32).toNatClampNeg) fun m449 =>
    if (ml_K m449 l0).1 = 11 then
    ml_let (ml_sR m449 l0 44 a448) fun m453 =>
    ml_let (ml_n m453 + 1) fun a455 =>
    ml_let (ml_al m453 20 (1024 : Int32).toNatClampNeg (1024 : Int32).toNatClampNeg) fun m456 =>
    if (ml_K m456 l0).1 = 11 then
    ml_let (ml_sR m456 l0 45 a455) fun m460 =>
    ml_let (ml_n m460 + 1) fun a462 =>
    ml_let (ml_al m460 20 (408 : Int32).toNatClampNeg (408 : Int32).toNatClampNeg) fun m463 =>
    if (ml_K m463 l0).1 = 11 then
    ml_let (ml_sR m463 l0 47 a462) fun m467 =>
    ml_let (ml_sI m467 l0 23 (1 : Int32)) fun m469 =>
    fX11_init_237 ml_fu l0 (0 : Int32) m469
    else none
    else none
    else none
    else none
    else none
    else none
    else none
    else none
    else none
    else none
    else none
    else none
    else none
    else none
    else none
    else none
    else none
    else none
    else none
    else none
    else none
    else none
    else none
    else none
    else none
    else none
    else none
    else none
def fX10_row (l0 : Nat) (l1 : Int32) (l2 : Int32) (m : ml_M) : Option (Int32 × ml_M) :=
    ml_b1 (fX10_isRow l1 m) fun r483 =>
    if r483 = 0 then
    some ((-1 : Int32), m)
    else
    if l2 ≤ (48 : Int32) then
    if 0 ≤ l2 then
    if (ml_K m l0).1 = 10 then
    ml_let (ml_R m l0 0) fun a485 =>
    if ml_len l2 then
    ml_let (ml_n m + 1) fun a487 =>
    ml_let (ml_al m 20 l2.toNatClampNeg l2.toNatClampNeg) fun m488 =>
    if ml_in m488 a485 23 l1 then
    ml_let (ml_sR m488 a485 l1.toNatClampNeg a487) fun m492 =>
    some (l2, m492)
    else none
    else none
    else none
    else
    if (ml_K m l0).1 = 10 then
    ml_b2 (fX10_found l0 (5 : Int32) m) fun r496 m497 =>
    some (r496, m497)
    else none
    else
    some ((-1 : Int32), m)
def fX11_in (l0 : Int32) (l1 : Int32) (l2 : Int32) (m : ml_M) : Option Int32 :=
    if l0 < l1 then
    some (0 : Int32)
    else
    if l2 < l0 then
    some (0 : Int32)
    else
    some (1 : Int32)
def fX11_isRow (l0 : Int32) (m : ml_M) : Option Int32 :=
    ml_b1 (fX11_in l0 (0 : Int32) (5 : Int32) m) fun r499 =>
    if r499 = 0 ∨ r499 = 1 then some r499 else none
def fX11_meets (l0 : Nat) (l1 : Int32) (m : ml_M) : Option (Int32 × ml_M) :=
    if (ml_K m l0).1 = 11 then
    ml_let (ml_sI m l0 0 l1) fun m502 =>
    ml_let (ml_R m502 l0 1) fun a504 =>
    if ml_in m502 a504 20 l1 then
    if ml_in m502 a504 20 l1 then
    ml_let (ml_sI m502 a504 l1.toNatClampNeg ((ml_I m502 a504 l1.toNatClampNeg) + (1 : Int32))) fun m507 =>
    some ((-3 : Int32), m507)
    else none
    else none
    else none
def fX11_row_34 : Nat → Nat → Int32 → Int32 → Int32 → ml_M → Option (Int32 × ml_M)
  | 0, _, _, _, _, _ => none
  | fu + 1, l0, l1, l2, l3, m =>
    if (48 : Int32) ≤ l3 then
    some (l2, m)
    else
    if (ml_K m l0).1 = 11 then
    ml_let (ml_R m l0 5) fun a510 =>
    if ml_in m a510 20 (((48 : Int32) * l1) + l3) then
    ml_let (ml_sI m a510 (((48 : Int32) * l1) + l3).toNatClampNeg (0 : Int32)) fun m512 =>
    (fX11_row_34 fu) l0 l1 l2 (l3 + (1 : Int32)) m512
    else none
    else none
def fX11_row (l0 : Nat) (l1 : Int32) (l2 : Int32) (m : ml_M) : Option (Int32 × ml_M) :=
    ml_b1 (fX11_isRow l1 m) fun r515 =>
    if r515 = 0 then
    some ((-1 : Int32), m)
    else
    if l2 ≤ (48 : Int32) then
    if 0 ≤ l2 then
    if (ml_K m l0).1 = 11 then
    ml_let (ml_R m l0 4) fun a517 =>
    if ml_in m a517 20 l1 then
    ml_let (ml_sI m a517 l1.toNatClampNeg l2) fun m519 =>
    fX11_row_34 ml_fu l0 l1 l2 (0 : Int32) m519
    else none
    else none
    else
    if (ml_K m l0).1 = 11 then
    ml_b2 (fX11_meets l0 (5 : Int32) m) fun r523 m524 =>
    some (r523, m524)
    else none
    else
    some ((-1 : Int32), m)
def fX10_lay_39 (l0 : Nat) (m : ml_M) : Option (Int32 × ml_M) :=
    if (ml_K m l0).1 = 10 then
    ml_b2 (fX10_found l0 (2 : Int32) m) fun r530 m531 =>
    some (r530, m531)
    else none
def fX10_lay (l0 : Nat) (l1 : Int32) (l2 : Int32) (l3 : Int32) (m : ml_M) : Option (Int32 × ml_M) :=
    ml_b1 (fX10_isRow l1 m) fun r533 =>
    if r533 = 0 then
    some ((-1 : Int32), m)
    else
    if (ml_K m l0).1 = 10 then
    ml_let (ml_R m l0 0) fun a535 =>
    if ml_in m a535 23 l1 then
    ml_let (ml_R m a535 l1.toNatClampNeg) fun a537 =>
    if a537 = 0 then
    ml_b2 (fX10_found l0 (1 : Int32) m) fun r548 m549 =>
    some (r548, m549)
    else
    if l2 < 0 then
    fX10_lay_39 l0 m
    else
    if (ml_K m a537).1 = 20 then
    if l2 < (Int32.ofNat (ml_K m a537).2) then
    if ml_in m a537 20 l2 then
    ml_let (ml_I m a537 l2.toNatClampNeg) fun x540 =>
    if ml_in m a537 20 l2 then
    ml_let (ml_sI m a537 l2.toNatClampNeg l3) fun m542 =>
    ml_b2 (fX10_tell l0 x540 m542) fun r545 m546 =>
    some (r545, m546)
    else none
    else none
    else
    fX10_lay_39 l0 m
    else none
    else none
    else none
def fX11_rowAt (l0 : Nat) (l1 : Int32) (l2 : Int32) (m : ml_M) : Option Int32 :=
    if (ml_K m l0).1 = 11 then
    ml_let (ml_R m l0 5) fun a551 =>
    if ml_in m a551 20 (((48 : Int32) * l1) + l2) then
    some (ml_I m a551 (((48 : Int32) * l1) + l2).toNatClampNeg)
    else none
    else none
def fX11_tells (l0 : Nat) (l1 : Int32) (l2 : Int32) (m : ml_M) : Option (Int32 × ml_M) :=
    if (ml_K m l0).1 = 11 then
    ml_let (ml_sI m l0 2 l1) fun m554 =>
    some (l2, m554)
    else none
def fX11_lay (l0 : Nat) (l1 : Int32) (l2 : Int32) (l3 : Int32) (m : ml_M) : Option (Int32 × ml_M) :=
    ml_b1 (fX11_isRow l1 m) fun r557 =>
    if r557 = 0 then
    some ((-1 : Int32), m)
    else
    if (ml_K m l0).1 = 11 then
    ml_let (ml_R m l0 4) fun a559 =>
    if ml_in m a559 20 l1 then
    if 0 ≤ (ml_I m a559 l1.toNatClampNeg) then
    ml_let (ml_R m l0 4) fun a561 =>
    if ml_in m a561 20 l1 then
    ml_b1 (fX11_in l2 (0 : Int32) ((ml_I m a561 l1.toNatClampNeg) - (1 : Int32)) m) fun r564 =>
    if r564 = 0 then
    ml_b2 (fX11_meets l0 (2 : Int32) m) fun r575 m576 =>
    some (r575, m576)
    else
    ml_b1 (fX11_rowAt l0 l1 l2 m) fun r566 =>
    ml_let (ml_R m l0 5) fun a567 =>
    if ml_in m a567 20 (((48 : Int32) * l1) + l2) then
    ml_let (ml_sI m a567 (((48 : Int32) * l1) + l2).toNatClampNeg l3) fun m569 =>
    ml_b2 (fX11_tells l0 r566 (1 : Int32) m569) fun r572 m573 =>
    some (r572, m573)
    else none
    else none
    else
    ml_b2 (fX11_meets l0 (1 : Int32) m) fun r578 m579 =>
    some (r578, m579)
    else none
    else none
def fX11_at (l0 : Nat) (l1 : Int32) (l2 : Int32) (m : ml_M) : Option (Int32 × ml_M) :=
    ml_b1 (fX11_isRow l1 m) fun r599 =>
    if r599 = 0 then
    some ((-1 : Int32), m)
    else
    if (ml_K m l0).1 = 11 then
    ml_let (ml_R m l0 4) fun a601 =>
    if ml_in m a601 20 l1 then
    if 0 ≤ (ml_I m a601 l1.toNatClampNeg) then
    ml_let (ml_R m l0 4) fun a603 =>
    if ml_in m a603 20 l1 then
    ml_b1 (fX11_in l2 (0 : Int32) ((ml_I m a603 l1.toNatClampNeg) - (1 : Int32)) m) fun r606 =>
    if r606 = 0 then
    ml_b2 (fX11_meets l0 (2 : Int32) m) fun r608 m609 =>
    some (r608, m609)
    else
    ml_b1 (fX11_rowAt l0 l1 l2 m) fun r611 =>
    ml_b2 (fX11_tells l0 r611 (1 : Int32) m) fun r613 m614 =>
    some (r613, m614)
    else none
    else
    ml_b2 (fX11_meets l0 (1 : Int32) m) fun r616 m617 =>
    some (r616, m617)
    else none
    else none
def fX10_tear (l0 : Nat) (l1 : Int32) (m : ml_M) : Option (Int32 × ml_M) :=
    ml_b1 (fX10_isRow l1 m) fun r619 =>
    if r619 = 0 then
    some ((-1 : Int32), m)
    else
    if (ml_K m l0).1 = 10 then
    ml_let (ml_R m l0 0) fun a621 =>
    if ml_in m a621 23 l1 then
    ml_let (ml_R m a621 l1.toNatClampNeg) fun a623 =>
    if a623 = 0 then
    ml_b2 (fX10_found l0 (1 : Int32) m) fun r629 m630 =>
    some (r629, m630)
    else
    ml_let (ml_R m l0 0) fun a624 =>
    if ml_in m a624 23 l1 then
    ml_let (ml_sR m a624 l1.toNatClampNeg 0) fun m626 =>
    some ((1 : Int32), m626)
    else none
    else none
    else none
def fX11_tear (l0 : Nat) (l1 : Int32) (m : ml_M) : Option (Int32 × ml_M) :=
    ml_b1 (fX11_isRow l1 m) fun r632 =>
    if r632 = 0 then
    some ((-1 : Int32), m)
    else
    if (ml_K m l0).1 = 11 then
    ml_let (ml_R m l0 4) fun a634 =>
    if ml_in m a634 20 l1 then
    if 0 ≤ (ml_I m a634 l1.toNatClampNeg) then
    ml_let (ml_R m l0 4) fun a636 =>
    if ml_in m a636 20 l1 then
    ml_let (ml_sI m a636 l1.toNatClampNeg (-1 : Int32)) fun m638 =>
    some ((1 : Int32), m638)
    else none
    else
    ml_b2 (fX11_meets l0 (1 : Int32) m) fun r641 m642 =>
    some (r641, m642)
    else none
    else none
def fX10_hasRun (l0 : Int32) (l1 : Int32) (l2 : Int32) (m : ml_M) : Option Int32 :=
    if l1 < 0 then
    some (0 : Int32)
    else
    if l0 < l1 then
    some (0 : Int32)
    else
    if (l0 - l1) < l2 then
    some (0 : Int32)
    else
    some (1 : Int32)
def fX10_copy_53 (l0 : Nat) (m : ml_M) : Option (Int32 × ml_M) :=
    if (ml_K m l0).1 = 10 then
    ml_b2 (fX10_found l0 (1 : Int32) m) fun r645 m646 =>
    some (r645, m646)
    else none
def fX10_copy_84 (l0 : Nat) (m : ml_M) : Option (Int32 × ml_M) :=
    if (ml_K m l0).1 = 10 then
    ml_b2 (fX10_found l0 (2 : Int32) m) fun r649 m650 =>
    some (r649, m650)
    else none
def fX10_copy (l0 : Nat) (l1 : Int32) (l2 : Int32) (l3 : Int32) (l4 : Int32) (l5 : Int32) (m : ml_M) : Option (Int32 × ml_M) :=
    ml_b1 (fX10_isRow l1 m) fun r652 =>
    if r652 = 0 then
    some ((-1 : Int32), m)
    else
    ml_b1 (fX10_isRow l3 m) fun r654 =>
    if r654 = 0 then
    some ((-1 : Int32), m)
    else
    if 0 ≤ l5 then
    if (ml_K m l0).1 = 10 then
    ml_let (ml_R m l0 0) fun a656 =>
    if ml_in m a656 23 l1 then
    ml_let (ml_R m a656 l1.toNatClampNeg) fun a658 =>
    ml_let (ml_R m l0 0) fun a659 =>
    if ml_in m a659 23 l3 then
    ml_let (ml_R m a659 l3.toNatClampNeg) fun a661 =>
    if a658 = 0 then
    fX10_copy_53 l0 m
    else
    if a661 = 0 then
    fX10_copy_53 l0 m
    else
    if (ml_K m a658).1 = 20 then
    ml_b1 (fX10_hasRun (Int32.ofNat (ml_K m a658).2) l2 l5 m) fun r664 =>
    if r664 = 0 then
    fX10_copy_84 l0 m
    else
    if (ml_K m a661).1 = 20 then
    ml_b1 (fX10_hasRun (Int32.ofNat (ml_K m a661).2) l4 l5 m) fun r667 =>
    if r667 = 0 then
    fX10_copy_84 l0 m
    else
    if ml_cpo m a658 a661 l2 l4 l5 then
    ml_let (ml_cp m a658 l2.toNatClampNeg a661 l4.toNatClampNeg l5.toNatClampNeg) fun m669 =>
    some ((1 : Int32), m669)
    else none
    else none
    else none
    else none
    else none
    else none
    else
    if (ml_K m l0).1 = 10 then
    ml_b2 (fX10_found l0 (5 : Int32) m) fun r673 m674 =>
    some (r673, m674)
    else none
def fX11_copy_45 (l0 : Nat) (m : ml_M) : Option (Int32 × ml_M) :=
    if (ml_K m l0).1 = 11 then
    ml_b2 (fX11_meets l0 (1 : Int32) m) fun r677 m678 =>
    some (r677, m678)
    else none
def fX11_copy_95 (l0 : Nat) (m : ml_M) : Option (Int32 × ml_M) :=
    if (ml_K m l0).1 = 11 then
    ml_b2 (fX11_meets l0 (2 : Int32) m) fun r681 m682 =>
    some (r681, m682)
    else none
def fX11_copy_136 : Nat → Nat → Int32 → Int32 → Int32 → Int32 → ml_M → Option (Int32 × ml_M)
  | 0, _, _, _, _, _, _ => none
  | fu + 1, l0, l3, l4, l5, l6, m =>
    if l5 ≤ l6 then
    some ((1 : Int32), m)
    else
    if (ml_K m l0).1 = 11 then
    ml_let (ml_R m l0 5) fun a684 =>
    ml_let (ml_R m l0 6) fun a685 =>
    if ml_in m a685 20 l6 then
    if ml_in m a684 20 ((((48 : Int32) * l3) + l4) + l6) then
    ml_let (ml_sI m a684 ((((48 : Int32) * l3) + l4) + l6).toNatClampNeg (ml_I m a685 l6.toNatClampNeg)) fun m688 =>
    (fX11_copy_136 fu) l0 l3 l4 l5 (l6 + (1 : Int32)) m688
    else none
    else none
    else none
def fX11_copy_133 (l0 : Nat) (l3 : Int32) (l4 : Int32) (l5 : Int32) (m : ml_M) : Option (Int32 × ml_M) :=
    fX11_copy_136 ml_fu l0 l3 l4 l5 (0 : Int32) m
def fX11_copy_104 : Nat → Nat → Int32 → Int32 → Int32 → Int32 → Int32 → Int32 → ml_M → Option (Int32 × ml_M)
  | 0, _, _, _, _, _, _, _, _ => none
  | fu + 1, l0, l1, l2, l3, l4, l5, l6, m =>
    if l5 ≤ l6 then
    fX11_copy_133 l0 l3 l4 l5 m
    else
    if (ml_K m l0).1 = 11 then
    ml_let (ml_R m l0 6) fun a691 =>
    ml_b1 (fX11_rowAt l0 l1 (l2 + l6) m) fun r693 =>
    if ml_in m a691 20 l6 then
    ml_let (ml_sI m a691 l6.toNatClampNeg r693) fun m695 =>
    (fX11_copy_104 fu) l0 l1 l2 l3 l4 l5 (l6 + (1 : Int32)) m695
    else none
    else none
def fX11_copy (l0 : Nat) (l1 : Int32) (l2 : Int32) (l3 : Int32) (l4 : Int32) (l5 : Int32) (m : ml_M) : Option (Int32 × ml_M) :=
    ml_b1 (fX11_isRow l1 m) fun r698 =>
    if r698 = 0 then
    some ((-1 : Int32), m)
    else
    ml_b1 (fX11_isRow l3 m) fun r700 =>
    if r700 = 0 then
    some ((-1 : Int32), m)
    else
    if 0 ≤ l5 then
    if (ml_K m l0).1 = 11 then
    ml_let (ml_R m l0 4) fun a702 =>
    if ml_in m a702 20 l1 then
    if (ml_I m a702 l1.toNatClampNeg) < 0 then
    fX11_copy_45 l0 m
    else
    ml_let (ml_R m l0 4) fun a704 =>
    if ml_in m a704 20 l3 then
    if 0 ≤ (ml_I m a704 l3.toNatClampNeg) then
    if l2 < 0 then
    fX11_copy_95 l0 m
    else
    if l4 < 0 then
    fX11_copy_95 l0 m
    else
    ml_let (ml_R m l0 4) fun a706 =>
    if ml_in m a706 20 l1 then
    if 0 < (lg_cmp (l2.toInt64 + l5.toInt64) ((ml_I m a706 l1.toNatClampNeg).toInt64)) then
    fX11_copy_95 l0 m
    else
    ml_let (ml_R m l0 4) fun a708 =>
    if ml_in m a708 20 l3 then
    if (lg_cmp (l4.toInt64 + l5.toInt64) ((ml_I m a708 l3.toNatClampNeg).toInt64)) ≤ 0 then
    fX11_copy_104 ml_fu l0 l1 l2 l3 l4 l5 (0 : Int32) m
    else
    fX11_copy_95 l0 m
    else none
    else none
    else
    fX11_copy_45 l0 m
    else none
    else none
    else none
    else
    if (ml_K m l0).1 = 11 then
    ml_b2 (fX11_meets l0 (5 : Int32) m) fun r712 m713 =>
    some (r712, m713)
    else none
def fX10_mean_76 (l0 : Nat) (l2 : Nat) (l3 : Int64) (m : ml_M) : Option (Int32 × ml_M) :=
    if (ml_K m l2).1 = 20 then
    if ¬ (Int32.ofNat (ml_K m l2).2).toInt64 = 0 then
    if (ml_K m l0).1 = 10 then
    ml_b2 (fX10_tell l0 ((l3 / (Int32.ofNat (ml_K m l2).2).toInt64).toInt32) m) fun r718 m719 =>
    some (r718, m719)
    else none
    else none
    else none
def fX10_mean_50 : Nat → Nat → Nat → Int64 → Nat → Int32 → Int32 → ml_M → Option (Int32 × ml_M)
  | 0, _, _, _, _, _, _, _ => none
  | fu + 1, l0, l2, l3, l5, l6, l7, m =>
    if l6 ≤ l7 then
    fX10_mean_76 l0 l2 l3 m
    else
    if ml_in m l5 20 l7 then
    ml_let (ml_I m l5 l7.toNatClampNeg) fun x721 =>
    ml_let (l3 + x721.toInt64) fun x722 =>
    (fX10_mean_50 fu) l0 l2 x722 l5 l6 (l7 + (1 : Int32)) m
    else none
def fX10_mean (l0 : Nat) (l1 : Int32) (m : ml_M) : Option (Int32 × ml_M) :=
    ml_b1 (fX10_isRow l1 m) fun r724 =>
    if r724 = 0 then
    some ((-1 : Int32), m)
    else
    if (ml_K m l0).1 = 10 then
    ml_let (ml_R m l0 0) fun a726 =>
    if ml_in m a726 23 l1 then
    ml_let (ml_R m a726 l1.toNatClampNeg) fun a728 =>
    if a728 = 0 then
    ml_b2 (fX10_found l0 (1 : Int32) m) fun r735 m736 =>
    some (r735, m736)
    else
    if (ml_K m a728).1 = 20 then
    if (Int32.ofNat (ml_K m a728).2) = 0 then
    ml_b2 (fX10_found l0 (4 : Int32) m) fun r732 m733 =>
    some (r732, m733)
    else
    ml_let (Int32.ofNat (ml_K m a728).2) fun x730 =>
    fX10_mean_50 ml_fu l0 a728 (0 : Int64) a728 x730 (0 : Int32) m
    else none
    else none
    else none
def fX11_mean_72 (l0 : Nat) (l1 : Int32) (l2 : Int64) (m : ml_M) : Option (Int32 × ml_M) :=
    if (ml_K m l0).1 = 11 then
    ml_let (ml_R m l0 4) fun a738 =>
    if ml_in m a738 20 l1 then
    if ¬ (ml_I m a738 l1.toNatClampNeg).toInt64 = 0 then
    ml_b2 (fX11_tells l0 ((l2 / (ml_I m a738 l1.toNatClampNeg).toInt64).toInt32) (1 : Int32) m) fun r742 m743 =>
    some (r742, m743)
    else none
    else none
    else none
def fX11_mean_44 : Nat → Nat → Int32 → Int64 → Int32 → ml_M → Option (Int32 × ml_M)
  | 0, _, _, _, _, _ => none
  | fu + 1, l0, l1, l2, l4, m =>
    if (ml_K m l0).1 = 11 then
    ml_let (ml_R m l0 4) fun a745 =>
    if ml_in m a745 20 l1 then
    if (ml_I m a745 l1.toNatClampNeg) ≤ l4 then
    fX11_mean_72 l0 l1 l2 m
    else
    ml_b1 (fX11_rowAt l0 l1 l4 m) fun r748 =>
    ml_let (l2 + r748.toInt64) fun x749 =>
    (fX11_mean_44 fu) l0 l1 x749 (l4 + (1 : Int32)) m
    else none
    else none
def fX11_mean (l0 : Nat) (l1 : Int32) (m : ml_M) : Option (Int32 × ml_M) :=
    ml_b1 (fX11_isRow l1 m) fun r751 =>
    if r751 = 0 then
    some ((-1 : Int32), m)
    else
    if (ml_K m l0).1 = 11 then
    ml_let (ml_R m l0 4) fun a753 =>
    if ml_in m a753 20 l1 then
    if 0 ≤ (ml_I m a753 l1.toNatClampNeg) then
    ml_let (ml_R m l0 4) fun a755 =>
    if ml_in m a755 20 l1 then
    if (ml_I m a755 l1.toNatClampNeg) = 0 then
    ml_b2 (fX11_meets l0 (4 : Int32) m) fun r758 m759 =>
    some (r758, m759)
    else
    fX11_mean_44 ml_fu l0 l1 (0 : Int64) (0 : Int32) m
    else none
    else
    ml_b2 (fX11_meets l0 (1 : Int32) m) fun r761 m762 =>
    some (r761, m762)
    else none
    else none
def fX11_isText (l0 : Int32) (m : ml_M) : Option Int32 :=
    ml_b1 (fX11_in l0 (0 : Int32) (3 : Int32) m) fun r786 =>
    if r786 = 0 ∨ r786 = 1 then some r786 else none
def fX11_text_34 : Nat → Nat → Int32 → Int32 → Int32 → ml_M → Option (Int32 × ml_M)
  | 0, _, _, _, _, _ => none
  | fu + 1, l0, l1, l2, l3, m =>
    if (120 : Int32) ≤ l3 then
    some (l2, m)
    else
    if (ml_K m l0).1 = 11 then
    ml_let (ml_R m l0 8) fun a789 =>
    if ml_in m a789 21 (((120 : Int32) * l1) + l3) then
    ml_let (ml_sI m a789 (((120 : Int32) * l1) + l3).toNatClampNeg ((32 : Int32).toInt8.toInt32)) fun m791 =>
    (fX11_text_34 fu) l0 l1 l2 (l3 + (1 : Int32)) m791
    else none
    else none
def fX11_text (l0 : Nat) (l1 : Int32) (l2 : Int32) (m : ml_M) : Option (Int32 × ml_M) :=
    ml_b1 (fX11_isText l1 m) fun r794 =>
    if r794 = 0 then
    some ((-1 : Int32), m)
    else
    if l2 ≤ (120 : Int32) then
    if 0 ≤ l2 then
    if (ml_K m l0).1 = 11 then
    ml_let (ml_R m l0 7) fun a796 =>
    if ml_in m a796 20 l1 then
    ml_let (ml_sI m a796 l1.toNatClampNeg l2) fun m798 =>
    fX11_text_34 ml_fu l0 l1 l2 (0 : Int32) m798
    else none
    else none
    else
    if (ml_K m l0).1 = 11 then
    ml_b2 (fX11_meets l0 (5 : Int32) m) fun r802 m803 =>
    some (r802, m803)
    else none
    else
    some ((-1 : Int32), m)
def fX11_put (l0 : Nat) (l1 : Int32) (l2 : Int32) (l3 : Int32) (m : ml_M) : Option (Int32 × ml_M) :=
    ml_b1 (fX11_isText l1 m) fun r824 =>
    if r824 = 0 then
    some ((-1 : Int32), m)
    else
    if (ml_K m l0).1 = 11 then
    ml_let (ml_R m l0 7) fun a826 =>
    if ml_in m a826 20 l1 then
    if 0 ≤ (ml_I m a826 l1.toNatClampNeg) then
    ml_let (ml_R m l0 7) fun a828 =>
    if ml_in m a828 20 l1 then
    ml_b1 (fX11_in l2 (0 : Int32) ((ml_I m a828 l1.toNatClampNeg) - (1 : Int32)) m) fun r831 =>
    if r831 = 0 then
    ml_b2 (fX11_meets l0 (2 : Int32) m) fun r840 m841 =>
    some (r840, m841)
    else
    ml_let (ml_R m l0 8) fun a832 =>
    if ml_in m a832 21 (((120 : Int32) * l1) + l2) then
    ml_let (ml_I m a832 (((120 : Int32) * l1) + l2).toNatClampNeg) fun x834 =>
    ml_let (ml_R m l0 8) fun a835 =>
    if ml_in m a835 21 (((120 : Int32) * l1) + l2) then
    ml_let (ml_sI m a835 (((120 : Int32) * l1) + l2).toNatClampNeg l3.toInt8.toInt32.toInt8.toInt32) fun m837 =>
    some (((1000 : Int32) + x834), m837)
    else none
    else none
    else none
    else
    ml_b2 (fX11_meets l0 (1 : Int32) m) fun r843 m844 =>
    some (r843, m844)
    else none
    else none
def fX11_byteAt (l0 : Nat) (l1 : Int32) (l2 : Int32) (m : ml_M) : Option Int32 :=
    if (ml_K m l0).1 = 11 then
    ml_let (ml_R m l0 7) fun a1061 =>
    if ml_in m a1061 20 l1 then
    if (ml_I m a1061 l1.toNatClampNeg) ≤ l2 then
    some (0 : Int32)
    else
    ml_let (ml_R m l0 8) fun a1063 =>
    if ml_in m a1063 21 (((120 : Int32) * l1) + l2) then
    some (ml_I m a1063 (((120 : Int32) * l1) + l2).toNatClampNeg)
    else none
    else none
    else none
def fX11_year_65 (l0 : Nat) (l2 : Int32) (l3 : Int32) (l4 : Int32) (m : ml_M) : Option (Int32 × ml_M) :=
    if (ml_K m l0).1 = 11 then
    ml_let (ml_sI m l0 16 l4) fun m1066 =>
    if l3 ≤ 0 then
    some ((0 : Int32), m1066)
    else
    if l4 < l2 then
    some ((0 : Int32), m1066)
    else
    some ((1 : Int32), m1066)
    else none
def fX11_year_5 : Nat → Nat → Int32 → Int32 → Int32 → Int32 → ml_M → Option (Int32 × ml_M)
  | 0, _, _, _, _, _, _ => none
  | fu + 1, l0, l1, l2, l3, l4, m =>
    if (2 : Int32) ≤ l3 then
    fX11_year_65 l0 l2 l3 l4 m
    else
    if (ml_K m l0).1 = 11 then
    ml_b1 (fX11_byteAt l0 l1 (ml_I m l0 15) m) fun r1070 =>
    ml_b1 (fX11_in r1070 (48 : Int32) (57 : Int32) m) fun r1072 =>
    if r1072 = 0 then
    fX11_year_65 l0 l2 l3 l4 m
    else
    ml_b1 (fX11_byteAt l0 l1 (ml_I m l0 15) m) fun r1074 =>
    ml_let ((((10 : Int32) * l4) + r1074) - (48 : Int32)) fun x1075 =>
    ml_let (ml_sI m l0 15 ((ml_I m l0 15) + (1 : Int32))) fun m1076 =>
    (fX11_year_5 fu) l0 l1 l2 (l3 + (1 : Int32)) x1075 m1076
    else none
def fX11_year (l0 : Nat) (l1 : Int32) (l2 : Int32) (m : ml_M) : Option (Int32 × ml_M) :=
    fX11_year_5 ml_fu l0 l1 l2 (0 : Int32) (0 : Int32) m
def fX11_sign_33 (l3 : Int32) (t0 : Int32) (t1 : Int32) (t2 : Nat) (m : ml_M) : Option (Int32 × ml_M) :=
    if (ml_K m t2).1 = 11 then
    ml_let (ml_sI m t2 15 (t1 + t0)) fun m1079 =>
    if l3 = 0 ∨ l3 = 1 then some (l3, m1079) else none
    else none
def fX11_sign_18 (l0 : Nat) (t0 : Int32) (m : ml_M) : Option (Int32 × ml_M) :=
    if (ml_K m l0).1 = 11 then
    if t0 = 0 then
    fX11_sign_33 t0 (0 : Int32) (ml_I m l0 15) l0 m
    else
    fX11_sign_33 t0 (1 : Int32) (ml_I m l0 15) l0 m
    else none
def fX11_sign (l0 : Nat) (l1 : Int32) (l2 : Int32) (m : ml_M) : Option (Int32 × ml_M) :=
    if (ml_K m l0).1 = 11 then
    ml_b1 (fX11_byteAt l0 l1 (ml_I m l0 15) m) fun r1085 =>
    if r1085 = l2 then
    fX11_sign_18 l0 (1 : Int32) m
    else
    fX11_sign_18 l0 (0 : Int32) m
    else none
def fX11_figure_63 (l4 : Int32) (t0 : Int32) (t1 : Int32) (t2 : Nat) (m : ml_M) : Option (Int32 × ml_M) :=
    if (ml_K m t2).1 = 11 then
    ml_let (ml_sI m t2 15 (t1 + t0)) fun m1087 =>
    if l4 = 0 ∨ l4 = 1 then some (l4, m1087) else none
    else none
def fX11_figure_46 (l0 : Nat) (t0 : Int32) (m : ml_M) : Option (Int32 × ml_M) :=
    if (ml_K m l0).1 = 11 then
    if t0 = 0 then
    fX11_figure_63 t0 (0 : Int32) (ml_I m l0 15) l0 m
    else
    fX11_figure_63 t0 (1 : Int32) (ml_I m l0 15) l0 m
    else none
def fX11_figure_45 (l0 : Nat) (m : ml_M) : Option (Int32 × ml_M) :=
    fX11_figure_46 l0 (0 : Int32) m
def fX11_figure (l0 : Nat) (l1 : Int32) (l2 : Int32) (l3 : Int32) (m : ml_M) : Option (Int32 × ml_M) :=
    if (ml_K m l0).1 = 11 then
    ml_b1 (fX11_byteAt l0 l1 (ml_I m l0 15) m) fun r1093 =>
    ml_let (ml_sI m l0 16 (r1093 - (48 : Int32))) fun m1094 =>
    ml_b1 (fX11_in (ml_I m1094 l0 16) (0 : Int32) (9 : Int32) m1094) fun r1097 =>
    if r1097 = 0 then
    fX11_figure_45 l0 m1094
    else
    ml_b1 (fX11_in (ml_I m1094 l0 16) l2 l3 m1094) fun r1099 =>
    if r1099 = 0 then
    fX11_figure_45 l0 m1094
    else
    fX11_figure_46 l0 (1 : Int32) m1094
    else none
def fX11_readsLodger_118 (k89 : Nat → Int32 → Int32 → Int32 → ml_M → Option (Int32 × ml_M)) (l0 : Nat) (l1 : Int32) (l2 : Int32) (l3 : Int32) (t0 : Int32) (t1 : Int32) (t2 : Nat) (m : ml_M) : Option (Int32 × ml_M) :=
    if (ml_K m t2).1 = 11 then
    ml_b2 (fX11_sign t2 t1 t0 m) fun r1102 m1103 =>
    if r1102 = 0 then
    some ((0 : Int32), m1103)
    else
    if (ml_K m1103 l0).1 = 11 then
    ml_b2 (fX11_figure l0 l1 (1 : Int32) (9 : Int32) m1103) fun r1106 m1107 =>
    if r1106 = 0 then
    some ((0 : Int32), m1107)
    else
    if (ml_K m1107 l0).1 = 11 then
    ml_let (ml_R m1107 l0 20) fun a1109 =>
    if ml_in m1107 a1109 20 (l2 + l3) then
    ml_let (ml_sI m1107 a1109 (l2 + l3).toNatClampNeg (ml_I m1107 l0 16)) fun m1111 =>
    k89 l0 l1 l2 (l3 + (1 : Int32)) m1111
    else none
    else none
    else none
    else none
def fX11_readsLodger_155 (l0 : Nat) (m : ml_M) : Option (Int32 × ml_M) :=
    if (ml_K m l0).1 = 11 then
    ml_let (ml_sI m l0 17 ((ml_I m l0 17) + (1 : Int32))) fun m1114 =>
    some ((1 : Int32), m1114)
    else none
def fX11_readsLodger_89 : Nat → Nat → Int32 → Int32 → Int32 → ml_M → Option (Int32 × ml_M)
  | 0, _, _, _, _, _ => none
  | fu + 1, l0, l1, l2, l3, m =>
    if (5 : Int32) ≤ l3 then
    fX11_readsLodger_155 l0 m
    else
    if l3 = (2 : Int32) then
    fX11_readsLodger_118 (fX11_readsLodger_89 fu) l0 l1 l2 l3 (115 : Int32) l1 l0 m
    else
    if l3 = (3 : Int32) then
    fX11_readsLodger_118 (fX11_readsLodger_89 fu) l0 l1 l2 l3 (116 : Int32) l1 l0 m
    else
    fX11_readsLodger_118 (fX11_readsLodger_89 fu) l0 l1 l2 l3 (104 : Int32) l1 l0 m
def fX11_readsLodger (l0 : Nat) (l1 : Int32) (m : ml_M) : Option (Int32 × ml_M) :=
    if (ml_K m l0).1 = 11 then
    if (ml_I m l0 17) = (8 : Int32) then
    some ((0 : Int32), m)
    else
    ml_let (ml_sI m l0 15 ((ml_I m l0 15) + (1 : Int32))) fun m1117 =>
    ml_let ((5 : Int32) * (ml_I m1117 l0 17)) fun x1119 =>
    ml_b2 (fX11_year l0 l1 (0 : Int32) m1117) fun r1121 m1122 =>
    if r1121 = 0 then
    some ((0 : Int32), m1122)
    else
    if (ml_K m1122 l0).1 = 11 then
    ml_let (ml_R m1122 l0 20) fun a1124 =>
    if ml_in m1122 a1124 20 x1119 then
    ml_let (ml_sI m1122 a1124 x1119.toNatClampNeg (ml_I m1122 l0 16)) fun m1126 =>
    ml_b2 (fX11_sign l0 l1 (45 : Int32) m1126) fun r1129 m1130 =>
    if r1129 = 0 then
    some ((0 : Int32), m1130)
    else
    if (ml_K m1130 l0).1 = 11 then
    ml_let (ml_R m1130 l0 20) fun a1132 =>
    if ml_in m1130 a1132 20 x1119 then
    ml_b2 (fX11_year l0 l1 (ml_I m1130 a1132 x1119.toNatClampNeg) m1130) fun r1135 m1136 =>
    if r1135 = 0 then
    some ((0 : Int32), m1136)
    else
    if (ml_K m1136 l0).1 = 11 then
    ml_let (ml_R m1136 l0 20) fun a1138 =>
    if ml_in m1136 a1138 20 (x1119 + (1 : Int32)) then
    ml_let (ml_sI m1136 a1138 (x1119 + (1 : Int32)).toNatClampNeg (ml_I m1136 l0 16)) fun m1140 =>
    fX11_readsLodger_89 ml_fu l0 l1 x1119 (2 : Int32) m1140
    else none
    else none
    else none
    else none
    else none
    else none
    else none
def fX11_readsTrunk_58 (l0 : Nat) (l1 : Int32) (l2 : Int32) (m : ml_M) : Option (Int32 × ml_M) :=
    if (ml_K m l0).1 = 11 then
    ml_let (ml_R m l0 21) fun a1143 =>
    if ml_in m a1143 20 ((2 : Int32) * (ml_I m l0 18)) then
    ml_let (ml_sI m a1143 ((2 : Int32) * (ml_I m l0 18)).toNatClampNeg l2) fun m1145 =>
    ml_b2 (fX11_sign l0 l1 (94 : Int32) m1145) fun r1148 m1149 =>
    if r1148 = 0 then
    some ((0 : Int32), m1149)
    else
    if (ml_K m1149 l0).1 = 11 then
    ml_b2 (fX11_figure l0 l1 (0 : Int32) (9 : Int32) m1149) fun r1152 m1153 =>
    if r1152 = 0 then
    some ((0 : Int32), m1153)
    else
    if (ml_K m1153 l0).1 = 11 then
    ml_let (ml_R m1153 l0 21) fun a1155 =>
    if ml_in m1153 a1155 20 (((2 : Int32) * (ml_I m1153 l0 18)) + (1 : Int32)) then
    ml_let (ml_sI m1153 a1155 (((2 : Int32) * (ml_I m1153 l0 18)) + (1 : Int32)).toNatClampNeg (ml_I m1153 l0 16)) fun m1157 =>
    ml_let (ml_sI m1157 l0 18 ((ml_I m1157 l0 18) + (1 : Int32))) fun m1159 =>
    some ((1 : Int32), m1159)
    else none
    else none
    else none
    else none
    else none
def fX11_readsTrunk_25 : Nat → Nat → Int32 → Int32 → Int32 → ml_M → Option (Int32 × ml_M)
  | 0, _, _, _, _, _ => none
  | fu + 1, l0, l1, l2, l3, m =>
    if (4 : Int32) ≤ l3 then
    fX11_readsTrunk_58 l0 l1 l2 m
    else
    if (ml_K m l0).1 = 11 then
    ml_b2 (fX11_figure l0 l1 (1 : Int32) (5 : Int32) m) fun r1163 m1164 =>
    if r1163 = 0 then
    some ((0 : Int32), m1164)
    else
    if (ml_K m1164 l0).1 = 11 then
    ml_let (((10 : Int32) * l2) + (ml_I m1164 l0 16)) fun x1166 =>
    (fX11_readsTrunk_25 fu) l0 l1 x1166 (l3 + (1 : Int32)) m1164
    else none
    else none
def fX11_readsTrunk (l0 : Nat) (l1 : Int32) (m : ml_M) : Option (Int32 × ml_M) :=
    if (ml_K m l0).1 = 11 then
    if (ml_I m l0 18) = (8 : Int32) then
    some ((0 : Int32), m)
    else
    ml_let (ml_sI m l0 15 ((ml_I m l0 15) + (1 : Int32))) fun m1168 =>
    fX11_readsTrunk_25 ml_fu l0 l1 (0 : Int32) (0 : Int32) m1168
    else none
def fX11_readsPile (l0 : Nat) (l1 : Int32) (m : ml_M) : Option (Int32 × ml_M) :=
    if (ml_K m l0).1 = 11 then
    if (ml_I m l0 19) = (12 : Int32) then
    some ((0 : Int32), m)
    else
    ml_let (ml_sI m l0 15 ((ml_I m l0 15) + (1 : Int32))) fun m1171 =>
    ml_b2 (fX11_figure l0 l1 (0 : Int32) ((ml_I m1171 l0 18) - (1 : Int32)) m1171) fun r1174 m1175 =>
    if r1174 = 0 then
    some ((0 : Int32), m1175)
    else
    if (ml_K m1175 l0).1 = 11 then
    ml_let (ml_I m1175 l0 16) fun x1177 =>
    ml_b2 (fX11_sign l0 l1 (47 : Int32) m1175) fun r1179 m1180 =>
    if r1179 = 0 then
    some ((0 : Int32), m1180)
    else
    if (ml_K m1180 l0).1 = 11 then
    ml_b1 (fX11_byteAt l0 l1 (ml_I m1180 l0 15) m1180) fun r1183 =>
    if r1183 = ((48 : Int32) + x1177) then
    some ((0 : Int32), m1180)
    else
    ml_b2 (fX11_figure l0 l1 (0 : Int32) ((ml_I m1180 l0 18) - (1 : Int32)) m1180) fun r1185 m1186 =>
    if r1185 = 0 then
    some ((0 : Int32), m1186)
    else
    if (ml_K m1186 l0).1 = 11 then
    ml_let (ml_R m1186 l0 22) fun a1188 =>
    if ml_in m1186 a1188 20 ((2 : Int32) * (ml_I m1186 l0 19)) then
    ml_let (ml_sI m1186 a1188 ((2 : Int32) * (ml_I m1186 l0 19)).toNatClampNeg x1177) fun m1190 =>
    ml_let (ml_R m1190 l0 22) fun a1192 =>
    if ml_in m1190 a1192 20 (((2 : Int32) * (ml_I m1190 l0 19)) + (1 : Int32)) then
    ml_let (ml_sI m1190 a1192 (((2 : Int32) * (ml_I m1190 l0 19)) + (1 : Int32)).toNatClampNeg (ml_I m1190 l0 16)) fun m1194 =>
    ml_let (ml_sI m1194 l0 19 ((ml_I m1194 l0 19) + (1 : Int32))) fun m1196 =>
    some ((1 : Int32), m1196)
    else none
    else none
    else none
    else none
    else none
    else none
def fX11_readsItem (l0 : Nat) (l1 : Int32) (m : ml_M) : Option (Int32 × ml_M) :=
    if (ml_K m l0).1 = 11 then
    ml_b1 (fX11_byteAt l0 l1 (ml_I m l0 15) m) fun r1200 =>
    if r1200 = (107 : Int32) then
    ml_b2 (fX11_readsTrunk l0 l1 m) fun r1202 m1203 =>
    if r1202 = 0 ∨ r1202 = 1 then some (r1202, m1203) else none
    else if r1200 = (108 : Int32) then
    ml_b2 (fX11_readsLodger l0 l1 m) fun r1208 m1209 =>
    if r1208 = 0 ∨ r1208 = 1 then some (r1208, m1209) else none
    else if r1200 = (117 : Int32) then
    ml_b2 (fX11_readsPile l0 l1 m) fun r1214 m1215 =>
    if r1214 = 0 ∨ r1214 = 1 then some (r1214, m1215) else none
    else some ((0 : Int32), m)
    else none
def fX11_faultOf_68 (l0 : Nat) (m : ml_M) : Option (Int32 × ml_M) :=
    if (ml_K m l0).1 = 11 then
    some ((ml_I m l0 15), m)
    else none
def fX11_faultOf_20 : Nat → Nat → Int32 → ml_M → Option (Int32 × ml_M)
  | 0, _, _, _ => none
  | fu + 1, l0, l1, m =>
    if (ml_K m l0).1 = 11 then
    ml_let (ml_R m l0 7) fun a1221 =>
    if ml_in m a1221 20 l1 then
    if (ml_I m a1221 l1.toNatClampNeg) ≤ (ml_I m l0 15) then
    some ((-9 : Int32), m)
    else
    ml_b1 (fX11_byteAt l0 l1 (ml_I m l0 15) m) fun r1224 =>
    if r1224 = (32 : Int32) then
    ml_let (ml_sI m l0 15 ((ml_I m l0 15) + (1 : Int32))) fun m1228 =>
    (fX11_faultOf_20 fu) l0 l1 m1228
    else
    ml_b2 (fX11_readsItem l0 l1 m) fun r1226 m1227 =>
    if r1226 = 0 then
    fX11_faultOf_68 l0 m1227
    else
    (fX11_faultOf_20 fu) l0 l1 m1227
    else none
    else none
def fX11_faultOf (l0 : Nat) (l1 : Int32) (m : ml_M) : Option (Int32 × ml_M) :=
    if (ml_K m l0).1 = 11 then
    ml_let (ml_sI m l0 15 (0 : Int32)) fun m1231 =>
    ml_let (ml_sI m1231 l0 17 (0 : Int32)) fun m1233 =>
    ml_let (ml_sI m1233 l0 18 (0 : Int32)) fun m1235 =>
    ml_let (ml_sI m1235 l0 19 (0 : Int32)) fun m1237 =>
    fX11_faultOf_20 ml_fu l0 l1 m1237
    else none
def fX11_fault (l0 : Nat) (l1 : Int32) (m : ml_M) : Option (Int32 × ml_M) :=
    ml_b1 (fX11_isText l1 m) fun r1240 =>
    if r1240 = 0 then
    some ((-1 : Int32), m)
    else
    if (ml_K m l0).1 = 11 then
    ml_let (ml_R m l0 7) fun a1242 =>
    if ml_in m a1242 20 l1 then
    if 0 ≤ (ml_I m a1242 l1.toNatClampNeg) then
    ml_b2 (fX11_faultOf l0 l1 m) fun r1245 m1246 =>
    some (r1245, m1246)
    else
    ml_b2 (fX11_meets l0 (1 : Int32) m) fun r1248 m1249 =>
    some (r1248, m1249)
    else none
    else none
def fX11_book_117 (k63 : Nat → Int32 → ml_M → Option (Int32 × ml_M)) (l0 : Nat) (l2 : Int32) (m : ml_M) : Option (Int32 × ml_M) :=
    k63 l0 (l2 + (1 : Int32)) m
def fX11_book_99 (k63 : Nat → Int32 → ml_M → Option (Int32 × ml_M)) (l0 : Nat) (l2 : Int32) (m : ml_M) : Option (Int32 × ml_M) :=
    if (24 : Int32) ≤ l2 then
    fX11_book_117 k63 l0 l2 m
    else
    if (ml_K m l0).1 = 11 then
    ml_let (ml_R m l0 14) fun a1291 =>
    ml_let (ml_R m l0 22) fun a1292 =>
    if ml_in m a1292 20 l2 then
    if ml_in m a1291 20 l2 then
    ml_let (ml_sI m a1291 l2.toNatClampNeg (ml_I m a1292 l2.toNatClampNeg)) fun m1295 =>
    fX11_book_117 k63 l0 l2 m1295
    else none
    else none
    else none
def fX11_book_123 (l0 : Nat) (m : ml_M) : Option (Int32 × ml_M) :=
    if (ml_K m l0).1 = 11 then
    ml_let (ml_sI m l0 24 (0 : Int32)) fun m1298 =>
    ml_let (ml_sI m1298 l0 34 (0 : Int32)) fun m1300 =>
    ml_let (ml_sI m1300 l0 37 (0 : Int32)) fun m1302 =>
    ml_let (ml_sI m1302 l0 46 (0 : Int32)) fun m1304 =>
    some ((ml_I m1304 l0 10), m1304)
    else none
def fX11_book_63 : Nat → Nat → Int32 → ml_M → Option (Int32 × ml_M)
  | 0, _, _, _ => none
  | fu + 1, l0, l2, m =>
    if (40 : Int32) ≤ l2 then
    fX11_book_123 l0 m
    else
    if (ml_K m l0).1 = 11 then
    ml_let (ml_R m l0 12) fun a1307 =>
    ml_let (ml_R m l0 20) fun a1308 =>
    if ml_in m a1308 20 l2 then
    if ml_in m a1307 20 l2 then
    ml_let (ml_sI m a1307 l2.toNatClampNeg (ml_I m a1308 l2.toNatClampNeg)) fun m1311 =>
    if (16 : Int32) ≤ l2 then
    fX11_book_99 (fX11_book_63 fu) l0 l2 m1311
    else
    ml_let (ml_R m1311 l0 13) fun a1313 =>
    ml_let (ml_R m1311 l0 21) fun a1314 =>
    if ml_in m1311 a1314 20 l2 then
    if ml_in m1311 a1313 20 l2 then
    ml_let (ml_sI m1311 a1313 l2.toNatClampNeg (ml_I m1311 a1314 l2.toNatClampNeg)) fun m1317 =>
    fX11_book_99 (fX11_book_63 fu) l0 l2 m1317
    else none
    else none
    else none
    else none
    else none
def fX11_book (l0 : Nat) (l1 : Int32) (m : ml_M) : Option (Int32 × ml_M) :=
    ml_b1 (fX11_isText l1 m) fun r1320 =>
    if r1320 = 0 then
    some ((-1 : Int32), m)
    else
    if (ml_K m l0).1 = 11 then
    ml_let (ml_R m l0 7) fun a1322 =>
    if ml_in m a1322 20 l1 then
    if 0 ≤ (ml_I m a1322 l1.toNatClampNeg) then
    ml_b2 (fX11_faultOf l0 l1 m) fun r1325 m1326 =>
    if r1325 = (-9 : Int32) then
    if (ml_K m1326 l0).1 = 11 then
    ml_let (ml_sI m1326 l0 9 (ml_I m1326 l0 17)) fun m1328 =>
    ml_let (ml_sI m1328 l0 10 (ml_I m1328 l0 18)) fun m1330 =>
    ml_let (ml_sI m1330 l0 11 (ml_I m1330 l0 19)) fun m1332 =>
    fX11_book_63 ml_fu l0 (0 : Int32) m1332
    else none
    else
    some ((-4 : Int32), m1326)
    else
    ml_b2 (fX11_meets l0 (1 : Int32) m) fun r1335 m1336 =>
    some (r1335, m1336)
    else none
    else none
def fX11_wear (l0 : Nat) (l1 : Int32) (m : ml_M) : Option (Int32 × ml_M) :=
    ml_b1 (fX11_in l1 (0 : Int32) (4 : Int32) m) fun r1344 =>
    if r1344 = 0 then
    some ((-1 : Int32), m)
    else
    if (ml_K m l0).1 = 11 then
    ml_let (ml_I m l0 23) fun x1346 =>
    ml_let (ml_sI m l0 23 l1) fun m1347 =>
    some (x1346, m1347)
    else none
def fX10_lodgerFact (l0 : Nat) (l1 : Int32) (l2 : Int32) (m : ml_M) : Option Int32 :=
    if (ml_K m l0).1 = 10 then
    ml_let (ml_R m l0 2) fun a1356 =>
    if (ml_K m a1356).1 = 1 then
    ml_let (ml_R m a1356 0) fun a1358 =>
    if ml_in m a1358 28 l1 then
    ml_let (ml_R m a1358 l1.toNatClampNeg) fun a1360 =>
    if l2 = (0 : Int32) then
    if (ml_K m a1360).1 = 6 then
    some (ml_I m a1360 0)
    else none
    else if l2 = (1 : Int32) then
    if (ml_K m a1360).1 = 6 then
    some (ml_I m a1360 1)
    else none
    else if l2 = (2 : Int32) then
    if (ml_K m a1360).1 = 6 then
    some (ml_I m a1360 2)
    else none
    else if l2 = (3 : Int32) then
    if (ml_K m a1360).1 = 6 then
    some (ml_I m a1360 3)
    else none
    else if (ml_K m a1360).1 = 6 then
    some (ml_I m a1360 4)
    else none
    else none
    else none
    else none
def fX10_lodger (l0 : Nat) (l1 : Int32) (l2 : Int32) (m : ml_M) : Option (Int32 × ml_M) :=
    if (ml_K m l0).1 = 10 then
    ml_b1 (fX10_isLodger l0 l1 m) fun r1376 =>
    if r1376 = 0 then
    some ((-1 : Int32), m)
    else
    ml_b1 (fX10_within l2 (0 : Int32) (4 : Int32) m) fun r1378 =>
    if r1378 = 0 then
    some ((-1 : Int32), m)
    else
    ml_b1 (fX10_lodgerFact l0 l1 l2 m) fun r1380 =>
    ml_b2 (fX10_tell l0 r1380 m) fun r1382 m1383 =>
    some (r1382, m1383)
    else none
def fX11_isLodger (l0 : Nat) (l1 : Int32) (m : ml_M) : Option Int32 :=
    if (ml_K m l0).1 = 11 then
    ml_b1 (fX11_in l1 (0 : Int32) ((ml_I m l0 9) - (1 : Int32)) m) fun r1386 =>
    if r1386 = 0 ∨ r1386 = 1 then some r1386 else none
    else none
def fX11_lodger (l0 : Nat) (l1 : Int32) (l2 : Int32) (m : ml_M) : Option (Int32 × ml_M) :=
    if (ml_K m l0).1 = 11 then
    ml_b1 (fX11_isLodger l0 l1 m) fun r1390 =>
    if r1390 = 0 then
    some ((-1 : Int32), m)
    else
    ml_b1 (fX11_in l2 (0 : Int32) (4 : Int32) m) fun r1392 =>
    if r1392 = 0 then
    some ((-1 : Int32), m)
    else
    ml_let (ml_R m l0 12) fun a1393 =>
    if ml_in m a1393 20 (((5 : Int32) * l1) + l2) then
    ml_b2 (fX11_tells l0 (ml_I m a1393 (((5 : Int32) * l1) + l2).toNatClampNeg) (1 : Int32) m) fun r1396 m1397 =>
    some (r1396, m1397)
    else none
    else none
def fX11_isTrunk (l0 : Nat) (l1 : Int32) (m : ml_M) : Option Int32 :=
    if (ml_K m l0).1 = 11 then
    ml_b1 (fX11_in l1 (0 : Int32) ((ml_I m l0 10) - (1 : Int32)) m) fun r1438 =>
    if r1438 = 0 ∨ r1438 = 1 then some r1438 else none
    else none
def fX11_trunkOf (l0 : Nat) (l1 : Int32) (m : ml_M) : Option Int32 :=
    if (ml_K m l0).1 = 11 then
    ml_let (ml_R m l0 25) fun a1441 =>
    if ml_in m a1441 20 (((7 : Int32) * l1) + (3 : Int32)) then
    some (ml_I m a1441 (((7 : Int32) * l1) + (3 : Int32)).toNatClampNeg)
    else none
    else none
def fX11_lyingMany_27 (k4 : Nat → Int32 → Int32 → Int32 → ml_M → Option Int32) (l0 : Nat) (l1 : Int32) (l3 : Int32) (t0 : Int32) (t1 : Int32) (m : ml_M) : Option Int32 :=
    ml_let (t1 + t0) fun x1443 =>
    k4 l0 l1 x1443 (l3 + (1 : Int32)) m
def fX11_lyingMany_4 : Nat → Nat → Int32 → Int32 → Int32 → ml_M → Option Int32
  | 0, _, _, _, _, _ => none
  | fu + 1, l0, l1, l2, l3, m =>
    if (ml_K m l0).1 = 11 then
    if (ml_I m l0 24) ≤ l3 then
    some l2
    else
    ml_b1 (fX11_trunkOf l0 l3 m) fun r1446 =>
    if r1446 = l1 then
    fX11_lyingMany_27 (fX11_lyingMany_4 fu) l0 l1 l3 (1 : Int32) l2 m
    else
    fX11_lyingMany_27 (fX11_lyingMany_4 fu) l0 l1 l3 (0 : Int32) l2 m
    else none
def fX11_lyingMany (l0 : Nat) (l1 : Int32) (m : ml_M) : Option Int32 :=
    fX11_lyingMany_4 ml_fu l0 l1 (0 : Int32) (0 : Int32) m
def fX11_trunkTells_45 (k5 : Nat → Int32 → Int32 → Int32 → Int32 → ml_M → Option Int32) (l0 : Nat) (l1 : Int32) (l2 : Int32) (l4 : Int32) (t0 : Int32) (t1 : Int32) (m : ml_M) : Option Int32 :=
    ml_let (t1 ||| t0) fun x1447 =>
    k5 l0 l1 l2 x1447 (l4 + (1 : Int32)) m
def fX11_trunkTells_53 (l0 : Nat) (l1 : Int32) (l2 : Int32) (l3 : Int32) (m : ml_M) : Option Int32 :=
    if (2 : Int32) ≤ l2 then
    if l2 = (2 : Int32) then
    some l3
    else
    if (ml_K m l0).1 = 11 then
    ml_b1 (fX11_lyingMany l0 l1 m) fun r1450 =>
    some r1450
    else none
    else
    if (ml_K m l0).1 = 11 then
    ml_let (ml_R m l0 13) fun a1452 =>
    if ml_in m a1452 20 (((2 : Int32) * l1) + l2) then
    some (ml_I m a1452 (((2 : Int32) * l1) + l2).toNatClampNeg)
    else none
    else none
def fX11_trunkTells_5 : Nat → Nat → Int32 → Int32 → Int32 → Int32 → ml_M → Option Int32
  | 0, _, _, _, _, _, _ => none
  | fu + 1, l0, l1, l2, l3, l4, m =>
    if (ml_K m l0).1 = 11 then
    if (ml_I m l0 11) ≤ l4 then
    fX11_trunkTells_53 l0 l1 l2 l3 m
    else
    ml_let (ml_R m l0 14) fun a1455 =>
    if ml_in m a1455 20 ((2 : Int32) * l4) then
    if (ml_I m a1455 ((2 : Int32) * l4).toNatClampNeg) = l1 then
    ml_let (ml_R m l0 14) fun a1457 =>
    if ml_in m a1457 20 (((2 : Int32) * l4) + (1 : Int32)) then
    fX11_trunkTells_45 (fX11_trunkTells_5 fu) l0 l1 l2 l4 ((1 : Int32) <<< ((ml_I m a1457 (((2 : Int32) * l4) + (1 : Int32)).toNatClampNeg) &&& 31)) l3 m
    else none
    else
    fX11_trunkTells_45 (fX11_trunkTells_5 fu) l0 l1 l2 l4 (0 : Int32) l3 m
    else none
    else none
def fX11_trunkTells (l0 : Nat) (l1 : Int32) (l2 : Int32) (m : ml_M) : Option Int32 :=
    fX11_trunkTells_5 ml_fu l0 l1 l2 (0 : Int32) (0 : Int32) m
def fX11_trunk (l0 : Nat) (l1 : Int32) (l2 : Int32) (m : ml_M) : Option (Int32 × ml_M) :=
    if (ml_K m l0).1 = 11 then
    ml_b1 (fX11_isTrunk l0 l1 m) fun r1461 =>
    if r1461 = 0 then
    some ((-1 : Int32), m)
    else
    ml_b1 (fX11_in l2 (0 : Int32) (3 : Int32) m) fun r1463 =>
    if r1463 = 0 then
    some ((-1 : Int32), m)
    else
    ml_b1 (fX11_trunkTells l0 l1 l2 m) fun r1465 =>
    ml_b2 (fX11_tells l0 r1465 (1 : Int32) m) fun r1467 m1468 =>
    some (r1467, m1468)
    else none
def fX11_isYears (l0 : Int32) (l1 : Int32) (m : ml_M) : Option Int32 :=
    ml_b1 (fX11_in l0 (0 : Int32) (99 : Int32) m) fun r1576 =>
    if r1576 = 0 then
    some (0 : Int32)
    else
    ml_b1 (fX11_in l1 l0 (99 : Int32) m) fun r1578 =>
    if r1578 = 0 then
    some (0 : Int32)
    else
    some (1 : Int32)
def fX11_isKey_13 : Nat → Int32 → Int32 → ml_M → Option Int32
  | 0, _, _, _ => none
  | fu + 1, l1, l2, m =>
    if l1 = 0 then
    if l1 = 0 ∨ l1 = 1 then some l1 else none
    else
    if l2 ≤ 0 then
    if l1 = 0 ∨ l1 = 1 then some l1 else none
    else
    ml_b1 (fX11_in (l2 - l2 / (10 : Int32) * (10 : Int32)) (1 : Int32) (5 : Int32) m) fun r1582 =>
    ml_let (l2 / (10 : Int32)) fun x1583 =>
    (fX11_isKey_13 fu) r1582 x1583 m
def fX11_isKey (l0 : Int32) (m : ml_M) : Option Int32 :=
    ml_b1 (fX11_in l0 (1111 : Int32) (5555 : Int32) m) fun r1585 =>
    fX11_isKey_13 ml_fu r1585 l0 m
def fX11_isThingTold (l0 : Nat) (l1 : Int32) (l2 : Int32) (l3 : Int32) (m : ml_M) : Option Int32 :=
    if l1 = (1 : Int32) then
    ml_b1 (fX11_in l2 (1 : Int32) (9 : Int32) m) fun r1587 =>
    if r1587 = 0 ∨ r1587 = 1 then some r1587 else none
    else if l1 = (2 : Int32) then
    ml_b1 (fX11_in l2 (0 : Int32) (9 : Int32) m) fun r1592 =>
    if r1592 = 0 then
    some (0 : Int32)
    else
    ml_b1 (fX11_in l3 (1 : Int32) (9 : Int32) m) fun r1594 =>
    if r1594 = 0 then
    some (0 : Int32)
    else
    some (1 : Int32)
    else if l1 = (3 : Int32) then
    ml_b1 (fX11_in l2 (0 : Int32) (99 : Int32) m) fun r1598 =>
    if r1598 = 0 then
    some (0 : Int32)
    else
    if (l2 - l2 / (10 : Int32) * (10 : Int32)) ≤ 0 then
    some (0 : Int32)
    else
    if (ml_K m l0).1 = 11 then
    ml_b1 (fX11_isLodger l0 l3 m) fun r1601 =>
    if r1601 = 0 then
    some (0 : Int32)
    else
    some (1 : Int32)
    else none
    else if l1 = (4 : Int32) then
    ml_b1 (fX11_in l2 (1 : Int32) (9 : Int32) m) fun r1605 =>
    if r1605 = 0 then
    some (0 : Int32)
    else
    ml_b1 (fX11_in l3 (1 : Int32) (9 : Int32) m) fun r1607 =>
    if r1607 = 0 then
    some (0 : Int32)
    else
    if l2 = l3 then
    some (0 : Int32)
    else
    some (1 : Int32)
    else if l1 = (5 : Int32) then
    ml_b1 (fX11_isKey l2 m) fun r1611 =>
    if r1611 = 0 ∨ r1611 = 1 then some r1611 else none
    else some (0 : Int32)
def fX11_thing_155 (l0 : Nat) (t0 : Int32) (t1 : Int32) (t2 : Nat) (m : ml_M) : Option (Int32 × ml_M) :=
    if ml_in m t2 20 t1 then
    ml_let (ml_sI m t2 t1.toNatClampNeg t0) fun m1616 =>
    if (ml_K m1616 l0).1 = 11 then
    ml_let (ml_sI m1616 l0 24 ((ml_I m1616 l0 24) + (1 : Int32))) fun m1619 =>
    some (((ml_I m1619 l0 24) - (1 : Int32)), m1619)
    else none
    else none
def fX11_thing_134 (l0 : Nat) (l1 : Int32) (l5 : Int32) (l6 : Int32) (t0 : Int32) (t1 : Int32) (t2 : Nat) (m : ml_M) : Option (Int32 × ml_M) :=
    if ml_in m t2 20 t1 then
    ml_let (ml_sI m t2 t1.toNatClampNeg t0) fun m1622 =>
    if (ml_K m1622 l0).1 = 11 then
    ml_let (ml_R m1622 l0 25) fun a1625 =>
    if l1 = (3 : Int32) then
    fX11_thing_155 l0 l5 (l6 + (6 : Int32)) a1625 m1622
    else
    fX11_thing_155 l0 (0 : Int32) (l6 + (6 : Int32)) a1625 m1622
    else none
    else none
def fX11_thing (l0 : Nat) (l1 : Int32) (l2 : Int32) (l3 : Int32) (l4 : Int32) (l5 : Int32) (m : ml_M) : Option (Int32 × ml_M) :=
    ml_b1 (fX11_isYears l2 l3 m) fun r1627 =>
    if r1627 = 0 then
    some ((-1 : Int32), m)
    else
    if (ml_K m l0).1 = 11 then
    ml_b1 (fX11_isThingTold l0 l1 l4 l5 m) fun r1630 =>
    if r1630 = 0 then
    some ((-1 : Int32), m)
    else
    if (ml_I m l0 24) = (20 : Int32) then
    some ((-2 : Int32), m)
    else
    ml_let ((7 : Int32) * (ml_I m l0 24)) fun x1631 =>
    ml_let (ml_R m l0 25) fun a1632 =>
    if ml_in m a1632 20 x1631 then
    ml_let (ml_sI m a1632 x1631.toNatClampNeg l1) fun m1634 =>
    ml_let (ml_R m1634 l0 25) fun a1636 =>
    if ml_in m1634 a1636 20 (x1631 + (1 : Int32)) then
    ml_let (ml_sI m1634 a1636 (x1631 + (1 : Int32)).toNatClampNeg l2) fun m1638 =>
    ml_let (ml_R m1638 l0 25) fun a1640 =>
    if ml_in m1638 a1640 20 (x1631 + (2 : Int32)) then
    ml_let (ml_sI m1638 a1640 (x1631 + (2 : Int32)).toNatClampNeg l3) fun m1642 =>
    ml_let (ml_R m1642 l0 25) fun a1644 =>
    if ml_in m1642 a1644 20 (x1631 + (3 : Int32)) then
    ml_let (ml_sI m1642 a1644 (x1631 + (3 : Int32)).toNatClampNeg (-9 : Int32)) fun m1646 =>
    ml_let (ml_R m1646 l0 25) fun a1648 =>
    if ml_in m1646 a1648 20 (x1631 + (4 : Int32)) then
    ml_let (ml_sI m1646 a1648 (x1631 + (4 : Int32)).toNatClampNeg (0 : Int32)) fun m1650 =>
    ml_let (ml_R m1650 l0 25) fun a1652 =>
    if l1 = (2 : Int32) then
    fX11_thing_134 l0 l1 l5 x1631 (((10 : Int32) * l4) + l5) (x1631 + (5 : Int32)) a1652 m1650
    else
    if l1 = (4 : Int32) then
    fX11_thing_134 l0 l1 l5 x1631 (((10 : Int32) * l4) + l5) (x1631 + (5 : Int32)) a1652 m1650
    else
    fX11_thing_134 l0 l1 l5 x1631 l4 (x1631 + (5 : Int32)) a1652 m1650
    else none
    else none
    else none
    else none
    else none
    else none
def fX11_isThing (l0 : Nat) (l1 : Int32) (m : ml_M) : Option Int32 :=
    if (ml_K m l0).1 = 11 then
    ml_b1 (fX11_in l1 (0 : Int32) ((ml_I m l0 24) - (1 : Int32)) m) fun r1682 =>
    if r1682 = 0 ∨ r1682 = 1 then some r1682 else none
    else none
def fX11_lies_55 (t0 : Int32) (t1 : Int32) (t2 : Nat) (m : ml_M) : Option (Int32 × ml_M) :=
    if ml_in m t2 20 t1 then
    ml_let (ml_sI m t2 t1.toNatClampNeg t0) fun m1685 =>
    some ((1 : Int32), m1685)
    else none
def fX11_lies_24 (l0 : Nat) (l1 : Int32) (l2 : Int32) (l3 : Int32) (m : ml_M) : Option (Int32 × ml_M) :=
    if (ml_K m l0).1 = 11 then
    ml_let (ml_R m l0 25) fun a1688 =>
    if ml_in m a1688 20 (((7 : Int32) * l1) + (3 : Int32)) then
    ml_let (ml_sI m a1688 (((7 : Int32) * l1) + (3 : Int32)).toNatClampNeg l2) fun m1690 =>
    ml_let (ml_R m1690 l0 25) fun a1692 =>
    if l3 = 0 then
    fX11_lies_55 (0 : Int32) (((7 : Int32) * l1) + (4 : Int32)) a1692 m1690
    else
    fX11_lies_55 (1 : Int32) (((7 : Int32) * l1) + (4 : Int32)) a1692 m1690
    else none
    else none
def fX11_lies (l0 : Nat) (l1 : Int32) (l2 : Int32) (l3 : Int32) (m : ml_M) : Option (Int32 × ml_M) :=
    if (ml_K m l0).1 = 11 then
    ml_b1 (fX11_isThing l0 l1 m) fun r1695 =>
    if r1695 = 0 then
    some ((-1 : Int32), m)
    else
    if l2 = (-9 : Int32) then
    fX11_lies_24 l0 l1 l2 l3 m
    else
    ml_b1 (fX11_isTrunk l0 l2 m) fun r1697 =>
    if r1697 = 0 then
    some ((-1 : Int32), m)
    else
    fX11_lies_24 l0 l1 l2 l3 m
    else none
def fX11_told (l0 : Nat) (l1 : Int32) (l2 : Int32) (m : ml_M) : Option (Int32 × ml_M) :=
    if (ml_K m l0).1 = 11 then
    ml_b1 (fX11_isThing l0 l1 m) fun r1727 =>
    if r1727 = 0 then
    some ((-1 : Int32), m)
    else
    ml_b1 (fX11_in l2 (0 : Int32) (4 : Int32) m) fun r1729 =>
    if r1729 = 0 then
    some ((-1 : Int32), m)
    else
    ml_let (ml_R m l0 25) fun a1730 =>
    if ml_in m a1730 20 (((7 : Int32) * l1) + l2) then
    ml_b2 (fX11_tells l0 (ml_I m a1730 (((7 : Int32) * l1) + l2).toNatClampNeg) (1 : Int32) m) fun r1733 m1734 =>
    some (r1733, m1734)
    else none
    else none
def fX10_isKind (l0 : Int32) (m : ml_M) : Option Int32 :=
    ml_b1 (fX10_within l0 (1 : Int32) (5 : Int32) m) fun r1736 =>
    if r1736 = 0 ∨ r1736 = 1 then some r1736 else none
def fX8_isOf_21 (m : ml_M) : Option Int32 :=
    some (1 : Int32)
def fX8_isOf (l0 : Nat) (l1 : Int32) (m : ml_M) : Option Int32 :=
    if (ml_K m l0).1 = 8 then
    if (ml_I m l0 0) = l1 then
    fX8_isOf_21 m
    else
    if (ml_I m l0 0) = (3 : Int32) then
    if l1 = (2 : Int32) then
    fX8_isOf_21 m
    else
    some (0 : Int32)
    else
    some (0 : Int32)
    else none
def fX8_tells (l0 : Nat) (l1 : Int32) (m : ml_M) : Option Int32 :=
    if l1 = (3 : Int32) then
    if (ml_K m l0).1 = 8 then
    some (ml_I m l0 4)
    else none
    else
    if (ml_K m l0).1 = 8 then
    some (ml_I m l0 3)
    else none
def fX10_mark (l0 : Nat) (l1 : Int32) (l2 : Int32) (m : ml_M) : Option (Int32 × ml_M) :=
    if (ml_K m l0).1 = 10 then
    ml_b1 (fX10_isThing l0 l1 m) fun r1743 =>
    if r1743 = 0 then
    some ((-1 : Int32), m)
    else
    ml_b1 (fX10_isKind l2 m) fun r1745 =>
    if r1745 = 0 then
    some ((-1 : Int32), m)
    else
    ml_let (ml_R m l0 4) fun a1746 =>
    if ml_in m a1746 29 l1 then
    ml_let (ml_R m a1746 l1.toNatClampNeg) fun a1748 =>
    if (ml_K m a1748).1 = 8 then
    ml_b1 (fX8_isOf a1748 l2 m) fun r1751 =>
    if r1751 = 0 then
    ml_b2 (fX10_found l0 (3 : Int32) m) fun r1753 m1754 =>
    some (r1753, m1754)
    else
    ml_b1 (fX8_tells a1748 l2 m) fun r1756 =>
    some (r1756, m)
    else none
    else none
    else none
def fX11_kind (l0 : Nat) (l1 : Int32) (m : ml_M) : Option Int32 :=
    if (ml_K m l0).1 = 11 then
    ml_let (ml_R m l0 25) fun a1758 =>
    if ml_in m a1758 20 ((7 : Int32) * l1) then
    some (ml_I m a1758 ((7 : Int32) * l1).toNatClampNeg)
    else none
    else none
def fX11_isOf_23 (m : ml_M) : Option Int32 :=
    some (1 : Int32)
def fX11_isOf (l0 : Nat) (l1 : Int32) (l2 : Int32) (m : ml_M) : Option Int32 :=
    if (ml_K m l0).1 = 11 then
    ml_b1 (fX11_kind l0 l1 m) fun r1762 =>
    if r1762 = l2 then
    fX11_isOf_23 m
    else
    if l2 = (2 : Int32) then
    ml_b1 (fX11_kind l0 l1 m) fun r1764 =>
    if r1764 = (3 : Int32) then
    fX11_isOf_23 m
    else
    some (0 : Int32)
    else
    some (0 : Int32)
    else none
def fX11_y (l0 : Nat) (l1 : Int32) (m : ml_M) : Option Int32 :=
    if (ml_K m l0).1 = 11 then
    ml_let (ml_R m l0 25) fun a1766 =>
    if ml_in m a1766 20 (((7 : Int32) * l1) + (6 : Int32)) then
    some (ml_I m a1766 (((7 : Int32) * l1) + (6 : Int32)).toNatClampNeg)
    else none
    else none
def fX11_x (l0 : Nat) (l1 : Int32) (m : ml_M) : Option Int32 :=
    if (ml_K m l0).1 = 11 then
    ml_let (ml_R m l0 25) fun a1769 =>
    if ml_in m a1769 20 (((7 : Int32) * l1) + (5 : Int32)) then
    some (ml_I m a1769 (((7 : Int32) * l1) + (5 : Int32)).toNatClampNeg)
    else none
    else none
def fX11_markOf (l0 : Nat) (l1 : Int32) (l2 : Int32) (m : ml_M) : Option Int32 :=
    if l2 = (3 : Int32) then
    if (ml_K m l0).1 = 11 then
    ml_b1 (fX11_y l0 l1 m) fun r1776 =>
    some r1776
    else none
    else
    if (ml_K m l0).1 = 11 then
    ml_b1 (fX11_x l0 l1 m) fun r1773 =>
    some r1773
    else none
def fX11_mark (l0 : Nat) (l1 : Int32) (l2 : Int32) (m : ml_M) : Option (Int32 × ml_M) :=
    if (ml_K m l0).1 = 11 then
    ml_b1 (fX11_isThing l0 l1 m) fun r1779 =>
    if r1779 = 0 then
    some ((-1 : Int32), m)
    else
    ml_b1 (fX11_in l2 (1 : Int32) (5 : Int32) m) fun r1781 =>
    if r1781 = 0 then
    some ((-1 : Int32), m)
    else
    ml_b1 (fX11_isOf l0 l1 l2 m) fun r1783 =>
    if r1783 = 0 then
    ml_b2 (fX11_meets l0 (3 : Int32) m) fun r1785 m1786 =>
    some (r1785, m1786)
    else
    ml_b1 (fX11_markOf l0 l1 l2 m) fun r1788 =>
    some (r1788, m)
    else none
def fX11_meetYears (l0 : Nat) (l1 : Int32) (l2 : Int32) (l3 : Int32) (l4 : Int32) (m : ml_M) : Option Int32 :=
    if l4 < l1 then
    some (0 : Int32)
    else
    if l2 < l3 then
    some (0 : Int32)
    else
    some (1 : Int32)
def fX11_off (l0 : Int32) (l1 : Int32) (m : ml_M) : Option Int32 :=
    if l1 ≤ l0 then
    some (l0 - l1)
    else
    some (l1 - l0)
def fX11_mayHave_154 (l0 : Nat) (l3 : Int32) (l6 : Int32) (m : ml_M) : Option Int32 :=
    if (ml_K m l0).1 = 11 then
    ml_let (ml_R m l0 12) fun a1797 =>
    if ml_in m a1797 20 (l3 + (4 : Int32)) then
    if l6 = (ml_I m a1797 (l3 + (4 : Int32)).toNatClampNeg) then
    some (0 : Int32)
    else
    some (1 : Int32)
    else none
    else none
def fX11_mayHave_194 (l0 : Nat) (l3 : Int32) (l6 : Int32) (m : ml_M) : Option Int32 :=
    if (ml_K m l0).1 = 11 then
    ml_let (ml_R m l0 12) fun a1800 =>
    if ml_in m a1800 20 (l3 + (4 : Int32)) then
    if l6 = (ml_I m a1800 (l3 + (4 : Int32)).toNatClampNeg) then
    some (0 : Int32)
    else
    some (1 : Int32)
    else none
    else none
def fX11_mayHave_227 (m : ml_M) : Option Int32 :=
    some (1 : Int32)
def fX11_mayHave (l0 : Nat) (l1 : Int32) (l2 : Int32) (m : ml_M) : Option Int32 :=
    ml_let ((5 : Int32) * l1) fun x1802 =>
    if (ml_K m l0).1 = 11 then
    ml_let (ml_R m l0 12) fun a1804 =>
    if ml_in m a1804 20 x1802 then
    ml_let (ml_R m l0 12) fun a1806 =>
    if ml_in m a1806 20 (x1802 + (1 : Int32)) then
    ml_let (ml_R m l0 25) fun a1808 =>
    if ml_in m a1808 20 (((7 : Int32) * l2) + (1 : Int32)) then
    ml_let (ml_R m l0 25) fun a1810 =>
    if ml_in m a1810 20 (((7 : Int32) * l2) + (2 : Int32)) then
    ml_b1 (fX11_meetYears l0 (ml_I m a1804 x1802.toNatClampNeg) (ml_I m a1806 (x1802 + (1 : Int32)).toNatClampNeg) (ml_I m a1808 (((7 : Int32) * l2) + (1 : Int32)).toNatClampNeg) (ml_I m a1810 (((7 : Int32) * l2) + (2 : Int32)).toNatClampNeg) m) fun r1813 =>
    if r1813 = 0 then
    some (0 : Int32)
    else
    ml_let (ml_R m l0 12) fun a1814 =>
    if ml_in m a1814 20 (x1802 + (3 : Int32)) then
    ml_let (ml_I m a1814 (x1802 + (3 : Int32)).toNatClampNeg) fun x1816 =>
    ml_b1 (fX11_x l0 l2 m) fun r1818 =>
    ml_let (r1818 / (10 : Int32)) fun x1819 =>
    ml_b1 (fX11_x l0 l2 m) fun r1821 =>
    ml_let (r1821 - r1821 / (10 : Int32) * (10 : Int32)) fun x1822 =>
    ml_b1 (fX11_kind l0 l2 m) fun r1824 =>
    if r1824 = (1 : Int32) then
    ml_b1 (fX11_x l0 l2 m) fun r1826 =>
    ml_let (ml_R m l0 12) fun a1827 =>
    if ml_in m a1827 20 (x1802 + (2 : Int32)) then
    ml_b1 (fX11_off r1826 (ml_I m a1827 (x1802 + (2 : Int32)).toNatClampNeg) m) fun r1830 =>
    if (1 : Int32) < r1830 then
    some (0 : Int32)
    else
    some (1 : Int32)
    else none
    else if r1824 = (2 : Int32) then
    if x1819 = x1816 then
    fX11_mayHave_154 l0 x1802 x1822 m
    else
    if x1819 = 0 then
    fX11_mayHave_154 l0 x1802 x1822 m
    else
    some (0 : Int32)
    else if r1824 = (3 : Int32) then
    ml_b1 (fX11_y l0 l2 m) fun r1836 =>
    if r1836 = l1 then
    if x1819 = x1816 then
    fX11_mayHave_194 l0 x1802 x1822 m
    else
    if x1819 = 0 then
    fX11_mayHave_194 l0 x1802 x1822 m
    else
    some (0 : Int32)
    else
    some (0 : Int32)
    else if r1824 = (4 : Int32) then
    if x1819 = x1816 then
    fX11_mayHave_227 m
    else
    if x1822 = x1816 then
    fX11_mayHave_227 m
    else
    some (0 : Int32)
    else some (1 : Int32)
    else none
    else none
    else none
    else none
    else none
    else none
def fX11_mayOf_29 (k4 : Nat → Int32 → Int32 → Int32 → ml_M → Option Int32) (l0 : Nat) (l1 : Int32) (l3 : Int32) (t0 : Int32) (t1 : Int32) (m : ml_M) : Option Int32 :=
    ml_let (t1 ||| t0) fun x1841 =>
    k4 l0 l1 x1841 (l3 + (1 : Int32)) m
def fX11_mayOf_4 : Nat → Nat → Int32 → Int32 → Int32 → ml_M → Option Int32
  | 0, _, _, _, _, _ => none
  | fu + 1, l0, l1, l2, l3, m =>
    if (ml_K m l0).1 = 11 then
    if (ml_I m l0 9) ≤ l3 then
    some l2
    else
    ml_b1 (fX11_mayHave l0 l3 l1 m) fun r1844 =>
    if r1844 = 0 then
    fX11_mayOf_29 (fX11_mayOf_4 fu) l0 l1 l3 (0 : Int32) l2 m
    else
    fX11_mayOf_29 (fX11_mayOf_4 fu) l0 l1 l3 ((1 : Int32) <<< (l3 &&& 31)) l2 m
    else none
def fX11_mayOf (l0 : Nat) (l1 : Int32) (m : ml_M) : Option Int32 :=
    fX11_mayOf_4 ml_fu l0 l1 (0 : Int32) (0 : Int32) m
def fX11_may (l0 : Nat) (l1 : Int32) (m : ml_M) : Option Int32 :=
    if (ml_K m l0).1 = 11 then
    ml_b1 (fX11_isThing l0 l1 m) fun r1847 =>
    if r1847 = 0 then
    some (-1 : Int32)
    else
    ml_b1 (fX11_mayOf l0 l1 m) fun r1849 =>
    some r1849
    else none
def fX11_coversAll_31 (k4 : Nat → Int32 → Int32 → Int32 → ml_M → Option Int32) (l0 : Nat) (l1 : Int32) (l3 : Int32) (t0 : Int32) (m : ml_M) : Option Int32 :=
    k4 l0 l1 t0 (l3 + (1 : Int32)) m
def fX11_coversAll_4 : Nat → Nat → Int32 → Int32 → Int32 → ml_M → Option Int32
  | 0, _, _, _, _, _ => none
  | fu + 1, l0, l1, l2, l3, m =>
    if (ml_K m l0).1 = 11 then
    if (ml_I m l0 24) ≤ l3 then
    if l2 = 0 ∨ l2 = 1 then some l2 else none
    else
    if l2 = 0 then
    if l2 = 0 ∨ l2 = 1 then some l2 else none
    else
    ml_b1 (fX11_mayOf l0 l3 m) fun r1878 =>
    if (r1878 &&& l1) = 0 then
    fX11_coversAll_31 (fX11_coversAll_4 fu) l0 l1 l3 (0 : Int32) m
    else
    fX11_coversAll_31 (fX11_coversAll_4 fu) l0 l1 l3 (1 : Int32) m
    else none
def fX11_coversAll (l0 : Nat) (l1 : Int32) (m : ml_M) : Option Int32 :=
    fX11_coversAll_4 ml_fu l0 l1 (1 : Int32) (0 : Int32) m
def fX11_bits_4 : Nat → Int32 → Int32 → ml_M → Option Int32
  | 0, _, _, _ => none
  | fu + 1, l1, l2, m =>
    if l2 = 0 then
    some l1
    else
    ml_let (l2 &&& (l2 - (1 : Int32))) fun x1879 =>
    (fX11_bits_4 fu) (l1 + (1 : Int32)) x1879 m
def fX11_bits (l0 : Int32) (m : ml_M) : Option Int32 :=
    fX11_bits_4 ml_fu (0 : Int32) l0 m
def fX11_fewest_55 (k27 : Nat → Int32 → Int32 → ml_M → Option (Int32 × ml_M)) (l0 : Nat) (l3 : Int32) (t0 : Int32) (m : ml_M) : Option (Int32 × ml_M) :=
    k27 l0 t0 (l3 + (-1 : Int32)) m
def fX11_fewest_54 (k27 : Nat → Int32 → Int32 → ml_M → Option (Int32 × ml_M)) (l0 : Nat) (l2 : Int32) (l3 : Int32) (m : ml_M) : Option (Int32 × ml_M) :=
    fX11_fewest_55 k27 l0 l3 l2 m
def fX11_fewest_62 (l0 : Nat) (l2 : Int32) (m : ml_M) : Option (Int32 × ml_M) :=
    ml_b1 (fX11_bits l2 m) fun r1881 =>
    if (ml_K m l0).1 = 11 then
    ml_b2 (fX11_tells l0 l2 r1881 m) fun r1884 m1885 =>
    some (r1884, m1885)
    else none
def fX11_fewest_27 : Nat → Nat → Int32 → Int32 → ml_M → Option (Int32 × ml_M)
  | 0, _, _, _, _ => none
  | fu + 1, l0, l2, l3, m =>
    if l3 < 0 then
    fX11_fewest_62 l0 l2 m
    else
    ml_b1 (fX11_bits l3 m) fun r1887 =>
    ml_b1 (fX11_bits l2 m) fun r1889 =>
    if r1889 < r1887 then
    fX11_fewest_54 (fX11_fewest_27 fu) l0 l2 l3 m
    else
    if (ml_K m l0).1 = 11 then
    ml_b1 (fX11_coversAll l0 l3 m) fun r1892 =>
    if r1892 = 0 then
    fX11_fewest_54 (fX11_fewest_27 fu) l0 l2 l3 m
    else
    fX11_fewest_55 (fX11_fewest_27 fu) l0 l3 l3 m
    else none
def fX11_fewest (l0 : Nat) (m : ml_M) : Option (Int32 × ml_M) :=
    if (ml_K m l0).1 = 11 then
    ml_let (((1 : Int32) <<< ((ml_I m l0 9) &&& 31)) - (1 : Int32)) fun x1894 =>
    ml_b1 (fX11_coversAll l0 x1894 m) fun r1896 =>
    if r1896 = 0 then
    ml_b2 (fX11_meets l0 (4 : Int32) m) fun r1898 m1899 =>
    some (r1898, m1899)
    else
    fX11_fewest_27 ml_fu l0 x1894 x1894 m
    else none
def fX11_fits_39 (l0 : Nat) (m : ml_M) : Option (Int32 × ml_M) :=
    if (ml_K m l0).1 = 11 then
    if (lg_cmp (ml_J m l0 3) (0 : Int64)) ≤ 0 then
    some ((0 : Int32), m)
    else
    some ((1 : Int32), m)
    else none
def fX11_fits_7 : Nat → Nat → Int32 → ml_M → Option (Int32 × ml_M)
  | 0, _, _, _ => none
  | fu + 1, l0, l1, m =>
    if (ml_K m l0).1 = 11 then
    if (ml_I m l0 24) ≤ l1 then
    fX11_fits_39 l0 m
    else
    ml_b1 (fX11_mayOf l0 l1 m) fun r1914 =>
    ml_b1 (fX11_bits r1914 m) fun r1916 =>
    ml_let (ml_sJ m l0 3 ((ml_J m l0 3) * r1916.toInt64)) fun m1917 =>
    (fX11_fits_7 fu) l0 (l1 + (1 : Int32)) m1917
    else none
def fX11_fits (l0 : Nat) (m : ml_M) : Option (Int32 × ml_M) :=
    if (ml_K m l0).1 = 11 then
    ml_let (ml_sJ m l0 3 (1 : Int64)) fun m1920 =>
    fX11_fits_7 ml_fu l0 (0 : Int32) m1920
    else none
def fX11_doesOpen_51 (k14 : Nat → Int32 → Int32 → Int32 → Int32 → Int32 → ml_M → Option Int32) (l0 : Nat) (l3 : Int32) (l5 : Int32) (l6 : Int32) (l7 : Int32) (l8 : Int32) (t0 : Int32) (m : ml_M) : Option Int32 :=
    ml_let (l3 + l8) fun x1956 =>
    ml_let (l5 / (10 : Int32)) fun x1957 =>
    ml_let (l6 / (10 : Int32)) fun x1958 =>
    k14 l0 x1956 t0 x1957 x1958 (l7 + (1 : Int32)) m
def fX11_doesOpen_50 (k14 : Nat → Int32 → Int32 → Int32 → Int32 → Int32 → ml_M → Option Int32) (l0 : Nat) (l3 : Int32) (l5 : Int32) (l6 : Int32) (l7 : Int32) (l8 : Int32) (m : ml_M) : Option Int32 :=
    fX11_doesOpen_51 k14 l0 l3 l5 l6 l7 l8 (0 : Int32) m
def fX11_doesOpen_78 (l0 : Nat) (l3 : Int32) (l4 : Int32) (m : ml_M) : Option Int32 :=
    if l4 = 0 then
    some (0 : Int32)
    else
    if (ml_K m l0).1 = 11 then
    if (ml_I m l0 23) < l3 then
    some (0 : Int32)
    else
    some (1 : Int32)
    else none
def fX11_doesOpen_14 : Nat → Nat → Int32 → Int32 → Int32 → Int32 → Int32 → ml_M → Option Int32
  | 0, _, _, _, _, _, _, _ => none
  | fu + 1, l0, l3, l4, l5, l6, l7, m =>
    if (4 : Int32) ≤ l7 then
    fX11_doesOpen_78 l0 l3 l4 m
    else
    ml_b1 (fX11_off (l5 - l5 / (10 : Int32) * (10 : Int32)) (l6 - l6 / (10 : Int32) * (10 : Int32)) m) fun r1961 =>
    if l4 = 0 then
    fX11_doesOpen_50 (fX11_doesOpen_14 fu) l0 l3 l5 l6 l7 r1961 m
    else
    if (1 : Int32) < r1961 then
    fX11_doesOpen_50 (fX11_doesOpen_14 fu) l0 l3 l5 l6 l7 r1961 m
    else
    fX11_doesOpen_51 (fX11_doesOpen_14 fu) l0 l3 l5 l6 l7 r1961 (1 : Int32) m
def fX11_doesOpen (l0 : Nat) (l1 : Int32) (l2 : Int32) (m : ml_M) : Option Int32 :=
    fX11_doesOpen_14 ml_fu l0 (0 : Int32) (1 : Int32) l1 l2 (0 : Int32) m
def fX11_opensOf_40 (k4 : Nat → Int32 → Int32 → Int32 → ml_M → Option Int32) (l0 : Nat) (l1 : Int32) (l3 : Int32) (t0 : Int32) (t1 : Int32) (m : ml_M) : Option Int32 :=
    ml_let (t1 ||| t0) fun x1962 =>
    k4 l0 l1 x1962 (l3 + (1 : Int32)) m
def fX11_opensOf_4 : Nat → Nat → Int32 → Int32 → Int32 → ml_M → Option Int32
  | 0, _, _, _, _, _ => none
  | fu + 1, l0, l1, l2, l3, m =>
    if (ml_K m l0).1 = 11 then
    if (ml_I m l0 10) ≤ l3 then
    some l2
    else
    ml_b1 (fX11_x l0 l1 m) fun r1965 =>
    ml_let (ml_R m l0 13) fun a1966 =>
    if ml_in m a1966 20 ((2 : Int32) * l3) then
    ml_b1 (fX11_doesOpen l0 r1965 (ml_I m a1966 ((2 : Int32) * l3).toNatClampNeg) m) fun r1969 =>
    if r1969 = 0 then
    fX11_opensOf_40 (fX11_opensOf_4 fu) l0 l1 l3 (0 : Int32) l2 m
    else
    fX11_opensOf_40 (fX11_opensOf_4 fu) l0 l1 l3 ((1 : Int32) <<< (l3 &&& 31)) l2 m
    else none
    else none
def fX11_opensOf (l0 : Nat) (l1 : Int32) (m : ml_M) : Option Int32 :=
    fX11_opensOf_4 ml_fu l0 l1 (0 : Int32) (0 : Int32) m
def fX11_opens (l0 : Nat) (l1 : Int32) (m : ml_M) : Option (Int32 × ml_M) :=
    if (ml_K m l0).1 = 11 then
    ml_b1 (fX11_isThing l0 l1 m) fun r1972 =>
    if r1972 = 0 then
    some ((-1 : Int32), m)
    else
    ml_b1 (fX11_kind l0 l1 m) fun r1974 =>
    if r1974 = (5 : Int32) then
    ml_b1 (fX11_opensOf l0 l1 m) fun r1979 =>
    some (r1979, m)
    else
    ml_b2 (fX11_meets l0 (3 : Int32) m) fun r1976 m1977 =>
    some (r1976, m1977)
    else none
def fX11_has (l0 : Int32) (l1 : Int32) (m : ml_M) : Option Int32 :=
    if ((l0 >>> (l1 &&& 31)) &&& (1 : Int32)) = (1 : Int32) then
    some (1 : Int32)
    else
    some (0 : Int32)
def fX11_strange_91 (k7 : Nat → Int32 → Int32 → Int32 → ml_M → Option (Int32 × ml_M)) (l0 : Nat) (l2 : Int32) (l3 : Int32) (t0 : Int32) (t1 : Int32) (m : ml_M) : Option (Int32 × ml_M) :=
    ml_let (t1 + t0) fun x1992 =>
    k7 l0 x1992 l2 (l3 + (1 : Int32)) m
def fX11_strange_79 (k7 : Nat → Int32 → Int32 → Int32 → ml_M → Option (Int32 × ml_M)) (l0 : Nat) (l1 : Int32) (l3 : Int32) (l4 : Int32) (t0 : Int32) (m : ml_M) : Option (Int32 × ml_M) :=
    if l4 = 0 then
    fX11_strange_91 k7 l0 t0 l3 (0 : Int32) l1 m
    else
    fX11_strange_91 k7 l0 t0 l3 (1 : Int32) l1 m
def fX11_strange_78 (k7 : Nat → Int32 → Int32 → Int32 → ml_M → Option (Int32 × ml_M)) (l0 : Nat) (l1 : Int32) (l2 : Int32) (l3 : Int32) (l4 : Int32) (m : ml_M) : Option (Int32 × ml_M) :=
    fX11_strange_79 k7 l0 l1 l3 l4 l2 m
def fX11_strange_63 (k7 : Nat → Int32 → Int32 → Int32 → ml_M → Option (Int32 × ml_M)) (l0 : Nat) (l1 : Int32) (l2 : Int32) (l3 : Int32) (t0 : Int32) (m : ml_M) : Option (Int32 × ml_M) :=
    if t0 = 0 then
    fX11_strange_78 k7 l0 l1 l2 l3 t0 m
    else
    if l1 = 0 then
    fX11_strange_79 k7 l0 l1 l3 t0 l3 m
    else
    fX11_strange_78 k7 l0 l1 l2 l3 t0 m
def fX11_strange_62 (k7 : Nat → Int32 → Int32 → Int32 → ml_M → Option (Int32 × ml_M)) (l0 : Nat) (l1 : Int32) (l2 : Int32) (l3 : Int32) (m : ml_M) : Option (Int32 × ml_M) :=
    fX11_strange_63 k7 l0 l1 l2 l3 (0 : Int32) m
def fX11_strange_99 (l0 : Nat) (l1 : Int32) (l2 : Int32) (m : ml_M) : Option (Int32 × ml_M) :=
    if (ml_K m l0).1 = 11 then
    ml_b2 (fX11_tells l0 l2 l1 m) fun r1995 m1996 =>
    some (r1995, m1996)
    else none
def fX11_strange_7 : Nat → Nat → Int32 → Int32 → Int32 → ml_M → Option (Int32 × ml_M)
  | 0, _, _, _, _, _ => none
  | fu + 1, l0, l1, l2, l3, m =>
    if (ml_K m l0).1 = 11 then
    if (ml_I m l0 24) ≤ l3 then
    fX11_strange_99 l0 l1 l2 m
    else
    ml_b1 (fX11_kind l0 l3 m) fun r1999 =>
    if r1999 = (5 : Int32) then
    ml_b1 (fX11_trunkOf l0 l3 m) fun r2001 =>
    if r2001 = (-9 : Int32) then
    fX11_strange_62 (fX11_strange_7 fu) l0 l1 l2 l3 m
    else
    ml_b1 (fX11_opensOf l0 l3 m) fun r2003 =>
    if r2003 = 0 then
    fX11_strange_62 (fX11_strange_7 fu) l0 l1 l2 l3 m
    else
    ml_b1 (fX11_opensOf l0 l3 m) fun r2005 =>
    ml_b1 (fX11_trunkOf l0 l3 m) fun r2007 =>
    ml_b1 (fX11_has r2005 r2007 m) fun r2009 =>
    if r2009 = 0 then
    fX11_strange_63 (fX11_strange_7 fu) l0 l1 l2 l3 (1 : Int32) m
    else
    fX11_strange_62 (fX11_strange_7 fu) l0 l1 l2 l3 m
    else
    fX11_strange_62 (fX11_strange_7 fu) l0 l1 l2 l3 m
    else none
def fX11_strange (l0 : Nat) (m : ml_M) : Option (Int32 × ml_M) :=
    fX11_strange_7 ml_fu l0 (0 : Int32) (-9 : Int32) (0 : Int32) m
def fX11_isWet (l0 : Nat) (l1 : Int32) (m : ml_M) : Option Int32 :=
    if (ml_K m l0).1 = 11 then
    ml_let (ml_R m l0 25) fun a2030 =>
    if ml_in m a2030 20 (((7 : Int32) * l1) + (4 : Int32)) then
    if (ml_I m a2030 (((7 : Int32) * l1) + (4 : Int32)).toNatClampNeg) = (1 : Int32) then
    some (1 : Int32)
    else
    some (0 : Int32)
    else none
    else none
def fX11_fitsWater_63 (k4 : Nat → Int32 → Int32 → Int32 → ml_M → Option Int32) (l0 : Nat) (l1 : Int32) (l3 : Int32) (t0 : Int32) (m : ml_M) : Option Int32 :=
    k4 l0 l1 t0 (l3 + (1 : Int32)) m
def fX11_fitsWater_58 (k4 : Nat → Int32 → Int32 → Int32 → ml_M → Option Int32) (l0 : Nat) (l1 : Int32) (l3 : Int32) (m : ml_M) : Option Int32 :=
    fX11_fitsWater_63 k4 l0 l1 l3 (1 : Int32) m
def fX11_fitsWater_62 (k4 : Nat → Int32 → Int32 → Int32 → ml_M → Option Int32) (l0 : Nat) (l1 : Int32) (l3 : Int32) (m : ml_M) : Option Int32 :=
    fX11_fitsWater_63 k4 l0 l1 l3 (0 : Int32) m
def fX11_fitsWater_55 (k4 : Nat → Int32 → Int32 → Int32 → ml_M → Option Int32) (l0 : Nat) (l1 : Int32) (l3 : Int32) (t0 : Int32) (t1 : Int32) (m : ml_M) : Option Int32 :=
    if t1 = t0 then
    fX11_fitsWater_58 k4 l0 l1 l3 m
    else
    fX11_fitsWater_62 k4 l0 l1 l3 m
def fX11_fitsWater_4 : Nat → Nat → Int32 → Int32 → Int32 → ml_M → Option Int32
  | 0, _, _, _, _, _ => none
  | fu + 1, l0, l1, l2, l3, m =>
    if (ml_K m l0).1 = 11 then
    if (ml_I m l0 24) ≤ l3 then
    if l2 = 0 ∨ l2 = 1 then some l2 else none
    else
    ml_b1 (fX11_trunkOf l0 l3 m) fun r2035 =>
    if l2 = 0 then
    fX11_fitsWater_62 (fX11_fitsWater_4 fu) l0 l1 l3 m
    else
    if r2035 = (-9 : Int32) then
    fX11_fitsWater_58 (fX11_fitsWater_4 fu) l0 l1 l3 m
    else
    ml_b1 (fX11_isWet l0 l3 m) fun r2037 =>
    ml_let (ml_R m l0 13) fun a2038 =>
    if ml_in m a2038 20 (((2 : Int32) * r2035) + (1 : Int32)) then
    if l1 ≤ (ml_I m a2038 (((2 : Int32) * r2035) + (1 : Int32)).toNatClampNeg) then
    fX11_fitsWater_55 (fX11_fitsWater_4 fu) l0 l1 l3 (0 : Int32) r2037 m
    else
    fX11_fitsWater_55 (fX11_fitsWater_4 fu) l0 l1 l3 (1 : Int32) r2037 m
    else none
    else none
def fX11_fitsWater (l0 : Nat) (l1 : Int32) (m : ml_M) : Option Int32 :=
    fX11_fitsWater_4 ml_fu l0 l1 (1 : Int32) (0 : Int32) m
def fX11_water_36 (k8 : Nat → Int32 → Int32 → Int32 → ml_M → Option (Int32 × ml_M)) (l0 : Nat) (l1 : Int32) (l2 : Int32) (l3 : Int32) (m : ml_M) : Option (Int32 × ml_M) :=
    k8 l0 l1 l2 (l3 + (1 : Int32)) m
def fX11_water_33 (k8 : Nat → Int32 → Int32 → Int32 → ml_M → Option (Int32 × ml_M)) (l0 : Nat) (l3 : Int32) (t0 : Int32) (m : ml_M) : Option (Int32 × ml_M) :=
    fX11_water_36 k8 l0 t0 l3 l3 m
def fX11_water_42 (l0 : Nat) (l1 : Int32) (l2 : Int32) (m : ml_M) : Option (Int32 × ml_M) :=
    if l1 = (-9 : Int32) then
    some ((-9 : Int32), m)
    else
    if (ml_K m l0).1 = 11 then
    ml_b2 (fX11_tells l0 l2 l1 m) fun r2042 m2043 =>
    some (r2042, m2043)
    else none
def fX11_water_8 : Nat → Nat → Int32 → Int32 → Int32 → ml_M → Option (Int32 × ml_M)
  | 0, _, _, _, _, _ => none
  | fu + 1, l0, l1, l2, l3, m =>
    if (10 : Int32) < l3 then
    fX11_water_42 l0 l1 l2 m
    else
    if (ml_K m l0).1 = 11 then
    ml_b1 (fX11_fitsWater l0 l3 m) fun r2046 =>
    if r2046 = 0 then
    fX11_water_36 (fX11_water_8 fu) l0 l1 l2 l3 m
    else
    if l1 = (-9 : Int32) then
    fX11_water_33 (fX11_water_8 fu) l0 l3 l3 m
    else
    fX11_water_33 (fX11_water_8 fu) l0 l3 l1 m
    else none
def fX11_water (l0 : Nat) (m : ml_M) : Option (Int32 × ml_M) :=
    fX11_water_8 ml_fu l0 (-9 : Int32) (-9 : Int32) (0 : Int32) m
def fX11_canCome_66 (k17 : Nat → Int32 → Int32 → Int32 → Int32 → ml_M → Option Int32) (l0 : Nat) (l1 : Int32) (l2 : Int32) (l4 : Int32) (t0 : Int32) (m : ml_M) : Option Int32 :=
    k17 l0 l1 l2 t0 (l4 + (1 : Int32)) m
def fX11_canCome_61 (k17 : Nat → Int32 → Int32 → Int32 → Int32 → ml_M → Option Int32) (l0 : Nat) (l1 : Int32) (l2 : Int32) (l4 : Int32) (m : ml_M) : Option Int32 :=
    fX11_canCome_66 k17 l0 l1 l2 l4 (1 : Int32) m
def fX11_canCome_65 (k17 : Nat → Int32 → Int32 → Int32 → Int32 → ml_M → Option Int32) (l0 : Nat) (l1 : Int32) (l2 : Int32) (l4 : Int32) (m : ml_M) : Option Int32 :=
    fX11_canCome_66 k17 l0 l1 l2 l4 (0 : Int32) m
def fX11_canCome_17 : Nat → Nat → Int32 → Int32 → Int32 → Int32 → ml_M → Option Int32
  | 0, _, _, _, _, _, _ => none
  | fu + 1, l0, l1, l2, l3, l4, m =>
    if (ml_K m l0).1 = 11 then
    if (ml_I m l0 11) ≤ l4 then
    if l3 = 0 ∨ l3 = 1 then some l3 else none
    else
    if l3 = 0 then
    fX11_canCome_65 (fX11_canCome_17 fu) l0 l1 l2 l4 m
    else
    ml_let (ml_R m l0 14) fun a2112 =>
    if ml_in m a2112 20 (((2 : Int32) * l4) + (1 : Int32)) then
    if (ml_I m a2112 (((2 : Int32) * l4) + (1 : Int32)).toNatClampNeg) = l1 then
    ml_let (ml_R m l0 14) fun a2114 =>
    if ml_in m a2114 20 ((2 : Int32) * l4) then
    ml_b1 (fX11_has l2 (ml_I m a2114 ((2 : Int32) * l4).toNatClampNeg) m) fun r2117 =>
    if r2117 = 0 then
    fX11_canCome_65 (fX11_canCome_17 fu) l0 l1 l2 l4 m
    else
    fX11_canCome_61 (fX11_canCome_17 fu) l0 l1 l2 l4 m
    else none
    else
    fX11_canCome_61 (fX11_canCome_17 fu) l0 l1 l2 l4 m
    else none
    else none
def fX11_canCome_13 (l0 : Nat) (l1 : Int32) (l2 : Int32) (t0 : Int32) (m : ml_M) : Option Int32 :=
    fX11_canCome_17 ml_fu l0 l1 l2 t0 (0 : Int32) m
def fX11_canCome (l0 : Nat) (l1 : Int32) (l2 : Int32) (m : ml_M) : Option Int32 :=
    ml_b1 (fX11_has l2 l1 m) fun r2119 =>
    if r2119 = 0 then
    fX11_canCome_13 l0 l1 l2 (1 : Int32) m
    else
    fX11_canCome_13 l0 l1 l2 (0 : Int32) m
def fX11_clear_9 : Nat → Nat → Int32 → Int32 → ml_M → Option ml_M
  | 0, _, _, _, _ => none
  | fu + 1, l0, l1, l3, m =>
    if (48 : Int32) ≤ l3 then
    some m
    else
    if (ml_K m l0).1 = 11 then
    ml_let (ml_R m l0 5) fun a2121 =>
    if ml_in m a2121 20 (((48 : Int32) * l1) + l3) then
    ml_let (ml_sI m a2121 (((48 : Int32) * l1) + l3).toNatClampNeg (0 : Int32)) fun m2123 =>
    (fX11_clear_9 fu) l0 l1 (l3 + (1 : Int32)) m2123
    else none
    else none
def fX11_clear (l0 : Nat) (l1 : Int32) (l2 : Int32) (m : ml_M) : Option ml_M :=
    if (ml_K m l0).1 = 11 then
    ml_let (ml_R m l0 4) fun a2126 =>
    if ml_in m a2126 20 l1 then
    ml_let (ml_sI m a2126 l1.toNatClampNeg l2) fun m2128 =>
    fX11_clear_9 ml_fu l0 l1 (0 : Int32) m2128
    else none
    else none
def fX11_piling_84 (k20 : Nat → Int32 → Int32 → Int32 → ml_M → Option (Int32 × ml_M)) (k43 : Nat → Int32 → Int32 → Int32 → Int32 → ml_M → Option (Int32 × ml_M)) (l0 : Nat) (l1 : Int32) (l2 : Int32) (l3 : Int32) (l4 : Int32) (t0 : Int32) (t1 : Int32) (t2 : Int32) (t3 : Nat) (m : ml_M) : Option (Int32 × ml_M) :=
    if ml_in m t3 20 t2 then
    ml_let (ml_sI m t3 t2.toNatClampNeg (t1 + t0)) fun m2131 =>
    k43 l0 l1 l2 l3 (l4 + (1 : Int32)) m2131
    else none
def fX11_piling_92 (k20 : Nat → Int32 → Int32 → Int32 → ml_M → Option (Int32 × ml_M)) (l0 : Nat) (l1 : Int32) (l2 : Int32) (l3 : Int32) (m : ml_M) : Option (Int32 × ml_M) :=
    k20 l0 l1 l2 (l3 + (-1 : Int32)) m
def fX11_piling_43 (k20 : Nat → Int32 → Int32 → Int32 → ml_M → Option (Int32 × ml_M)) : Nat → Nat → Int32 → Int32 → Int32 → Int32 → ml_M → Option (Int32 × ml_M)
  | 0, _, _, _, _, _, _ => none
  | fu + 1, l0, l1, l2, l3, l4, m =>
    if (ml_K m l0).1 = 11 then
    if (ml_I m l0 10) ≤ l4 then
    fX11_piling_92 k20 l0 l1 l2 l3 m
    else
    ml_let (ml_R m l0 26) fun a2134 =>
    if ml_in m a2134 20 l3 then
    ml_b1 (fX11_canCome l0 l4 l3 m) fun r2137 =>
    if r2137 = 0 then
    fX11_piling_84 k20 (fX11_piling_43 k20 fu) l0 l1 l2 l3 l4 (0 : Int32) (ml_I m a2134 l3.toNatClampNeg) l3 a2134 m
    else
    ml_let (ml_R m l0 26) fun a2138 =>
    if ml_in m a2138 20 (l3 ||| ((1 : Int32) <<< (l4 &&& 31))) then
    fX11_piling_84 k20 (fX11_piling_43 k20 fu) l0 l1 l2 l3 l4 (ml_I m a2138 (l3 ||| ((1 : Int32) <<< (l4 &&& 31))).toNatClampNeg) (ml_I m a2134 l3.toNatClampNeg) l3 a2134 m
    else none
    else none
    else none
def fX11_piling_39 (k20 : Nat → Int32 → Int32 → Int32 → ml_M → Option (Int32 × ml_M)) (l0 : Nat) (l1 : Int32) (l2 : Int32) (l3 : Int32) (t0 : Int32) (t1 : Int32) (t2 : Nat) (m : ml_M) : Option (Int32 × ml_M) :=
    if ml_in m t2 20 t1 then
    ml_let (ml_sI m t2 t1.toNatClampNeg t0) fun m2141 =>
    fX11_piling_43 k20 ml_fu l0 l1 l2 l3 (0 : Int32) m2141
    else none
def fX11_piling_160 (k124 : Nat → Int32 → Int32 → Int32 → ml_M → Option (Int32 × ml_M)) (k136 : Nat → Int32 → Int32 → Int32 → Int32 → ml_M → Option (Int32 × ml_M)) (l0 : Nat) (l1 : Int32) (l3 : Int32) (l4 : Int32) (l5 : Int32) (m : ml_M) : Option (Int32 × ml_M) :=
    k136 l0 l1 l3 l4 (l5 + (1 : Int32)) m
def fX11_piling_166 (k124 : Nat → Int32 → Int32 → Int32 → ml_M → Option (Int32 × ml_M)) (l0 : Nat) (l1 : Int32) (l3 : Int32) (l4 : Int32) (l5 : Int32) (m : ml_M) : Option (Int32 × ml_M) :=
    if (ml_K m l0).1 = 11 then
    ml_let (ml_R m l0 5) fun a2144 =>
    if ml_in m a2144 20 (((48 : Int32) * l1) + l4) then
    ml_let (ml_sI m a2144 (((48 : Int32) * l1) + l4).toNatClampNeg l5) fun m2146 =>
    ml_let (l3 ||| ((1 : Int32) <<< (l5 &&& 31))) fun x2148 =>
    k124 l0 l1 x2148 (l4 + (1 : Int32)) m2146
    else none
    else none
def fX11_piling_136 (k124 : Nat → Int32 → Int32 → Int32 → ml_M → Option (Int32 × ml_M)) : Nat → Nat → Int32 → Int32 → Int32 → Int32 → ml_M → Option (Int32 × ml_M)
  | 0, _, _, _, _, _, _ => none
  | fu + 1, l0, l1, l3, l4, l5, m =>
    if (ml_K m l0).1 = 11 then
    ml_b1 (fX11_canCome l0 l5 l3 m) fun r2151 =>
    if r2151 = 0 then
    fX11_piling_160 k124 (fX11_piling_136 k124 fu) l0 l1 l3 l4 l5 m
    else
    ml_let (ml_R m l0 26) fun a2152 =>
    if ml_in m a2152 20 (l3 ||| ((1 : Int32) <<< (l5 &&& 31))) then
    if (ml_I m a2152 (l3 ||| ((1 : Int32) <<< (l5 &&& 31))).toNatClampNeg) = 0 then
    fX11_piling_160 k124 (fX11_piling_136 k124 fu) l0 l1 l3 l4 l5 m
    else
    fX11_piling_166 k124 l0 l1 l3 l4 l5 m
    else none
    else none
def fX11_piling_193 (l0 : Nat) (m : ml_M) : Option (Int32 × ml_M) :=
    if (ml_K m l0).1 = 11 then
    ml_let (ml_R m l0 26) fun a2155 =>
    if ml_in m a2155 20 (0 : Int32) then
    some ((ml_I m a2155 (0 : Int32).toNatClampNeg), m)
    else none
    else none
def fX11_piling_124 : Nat → Nat → Int32 → Int32 → Int32 → ml_M → Option (Int32 × ml_M)
  | 0, _, _, _, _, _ => none
  | fu + 1, l0, l1, l3, l4, m =>
    if (ml_K m l0).1 = 11 then
    if (ml_I m l0 10) ≤ l4 then
    fX11_piling_193 l0 m
    else
    fX11_piling_136 (fX11_piling_124 fu) ml_fu l0 l1 l3 l4 (0 : Int32) m
    else none
def fX11_piling_98 (l0 : Nat) (l1 : Int32) (m : ml_M) : Option (Int32 × ml_M) :=
    if (ml_K m l0).1 = 11 then
    ml_let (ml_R m l0 26) fun a2159 =>
    if ml_in m a2159 20 (0 : Int32) then
    if (ml_I m a2159 (0 : Int32).toNatClampNeg) = 0 then
    some ((-9 : Int32), m)
    else
    ml_b1 (fX11_clear l0 l1 (ml_I m l0 10) m) fun m2162 =>
    fX11_piling_124 ml_fu l0 l1 (0 : Int32) (0 : Int32) m2162
    else none
    else none
def fX11_piling_20 : Nat → Nat → Int32 → Int32 → Int32 → ml_M → Option (Int32 × ml_M)
  | 0, _, _, _, _, _ => none
  | fu + 1, l0, l1, l2, l3, m =>
    if l3 < 0 then
    fX11_piling_98 l0 l1 m
    else
    if (ml_K m l0).1 = 11 then
    ml_let (ml_R m l0 26) fun a2164 =>
    if l3 = l2 then
    fX11_piling_39 (fX11_piling_20 fu) l0 l1 l2 l3 (1 : Int32) l3 a2164 m
    else
    fX11_piling_39 (fX11_piling_20 fu) l0 l1 l2 l3 (0 : Int32) l3 a2164 m
    else none
def fX11_piling (l0 : Nat) (l1 : Int32) (m : ml_M) : Option (Int32 × ml_M) :=
    ml_b1 (fX11_isRow l1 m) fun r2166 =>
    if r2166 = 0 then
    some ((-1 : Int32), m)
    else
    if (ml_K m l0).1 = 11 then
    ml_let (((1 : Int32) <<< ((ml_I m l0 10) &&& 31)) - (1 : Int32)) fun x2168 =>
    fX11_piling_20 ml_fu l0 l1 x2168 x2168 m
    else none
def fX11_beginSharings_7 : Nat → Nat → Int32 → ml_M → Option ml_M
  | 0, _, _, _ => none
  | fu + 1, l0, l1, m =>
    if (8 : Int32) ≤ l1 then
    some m
    else
    if (ml_K m l0).1 = 11 then
    ml_let (ml_R m l0 27) fun a2374 =>
    if ml_in m a2374 20 l1 then
    ml_let (ml_sI m a2374 l1.toNatClampNeg (-1 : Int32)) fun m2376 =>
    (fX11_beginSharings_7 fu) l0 (l1 + (1 : Int32)) m2376
    else none
    else none
def fX11_beginSharings (l0 : Nat) (m : ml_M) : Option ml_M :=
    if (ml_K m l0).1 = 11 then
    ml_let (ml_sI m l0 28 (0 : Int32)) fun m2379 =>
    fX11_beginSharings_7 ml_fu l0 (0 : Int32) m2379
    else none
def fX11_isTaken_31 (k5 : Nat → Int32 → Int32 → Int32 → Int32 → ml_M → Option Int32) (l0 : Nat) (l1 : Int32) (l2 : Int32) (l4 : Int32) (t0 : Int32) (m : ml_M) : Option Int32 :=
    k5 l0 l1 l2 t0 (l4 + (1 : Int32)) m
def fX11_isTaken_26 (k5 : Nat → Int32 → Int32 → Int32 → Int32 → ml_M → Option Int32) (l0 : Nat) (l1 : Int32) (l2 : Int32) (l4 : Int32) (m : ml_M) : Option Int32 :=
    fX11_isTaken_31 k5 l0 l1 l2 l4 (1 : Int32) m
def fX11_isTaken_5 : Nat → Nat → Int32 → Int32 → Int32 → Int32 → ml_M → Option Int32
  | 0, _, _, _, _, _, _ => none
  | fu + 1, l0, l1, l2, l3, l4, m =>
    if l2 ≤ l4 then
    if l3 = 0 ∨ l3 = 1 then some l3 else none
    else
    if l3 = 0 then
    if (ml_K m l0).1 = 11 then
    ml_let (ml_R m l0 27) fun a2383 =>
    if ml_in m a2383 20 l4 then
    if (ml_I m a2383 l4.toNatClampNeg) = l1 then
    fX11_isTaken_26 (fX11_isTaken_5 fu) l0 l1 l2 l4 m
    else
    fX11_isTaken_31 (fX11_isTaken_5 fu) l0 l1 l2 l4 (0 : Int32) m
    else none
    else none
    else
    fX11_isTaken_26 (fX11_isTaken_5 fu) l0 l1 l2 l4 m
def fX11_isTaken (l0 : Nat) (l1 : Int32) (l2 : Int32) (m : ml_M) : Option Int32 :=
    fX11_isTaken_5 ml_fu l0 l1 l2 (0 : Int32) (0 : Int32) m
def fX11_nextRow_37 (l0 : Nat) (t0 : Int32) (m : ml_M) : Option (Int32 × ml_M) :=
    if (ml_K m l0).1 = 11 then
    ml_let (ml_sI m l0 28 (1 : Int32)) fun m2386 =>
    if t0 = 0 ∨ t0 = 1 then some (t0, m2386) else none
    else none
def fX11_nextRow_127 (k50 : Nat → Int32 → ml_M → Option (Int32 × ml_M)) (l0 : Nat) (t0 : Int32) (t1 : Int32) (m : ml_M) : Option (Int32 × ml_M) :=
    ml_let (t1 + t0) fun x2389 =>
    k50 l0 x2389 m
def fX11_nextRow_112 (k50 : Nat → Int32 → ml_M → Option (Int32 × ml_M)) (l0 : Nat) (l1 : Int32) (l2 : Int32) (t0 : Int32) (t1 : Int32) (t2 : Nat) (m : ml_M) : Option (Int32 × ml_M) :=
    if ml_in m t2 20 t1 then
    ml_let (ml_sI m t2 t1.toNatClampNeg t0) fun m2391 =>
    if (ml_K m2391 l0).1 = 11 then
    if (ml_I m2391 l0 9) ≤ l2 then
    fX11_nextRow_127 k50 l0 (-1 : Int32) l1 m2391
    else
    fX11_nextRow_127 k50 l0 (1 : Int32) l1 m2391
    else none
    else none
def fX11_nextRow_94 (k50 : Nat → Int32 → ml_M → Option (Int32 × ml_M)) (l0 : Nat) (l1 : Int32) (l2 : Int32) (m : ml_M) : Option (Int32 × ml_M) :=
    if (ml_K m l0).1 = 11 then
    ml_let (ml_R m l0 27) fun a2395 =>
    if (ml_I m l0 9) ≤ l2 then
    fX11_nextRow_112 k50 l0 l1 l2 (-1 : Int32) l1 a2395 m
    else
    fX11_nextRow_112 k50 l0 l1 l2 l2 l1 a2395 m
    else none
def fX11_nextRow_71 (k50 : Nat → Int32 → ml_M → Option (Int32 × ml_M)) : Nat → Nat → Int32 → Int32 → ml_M → Option (Int32 × ml_M)
  | 0, _, _, _, _ => none
  | fu + 1, l0, l1, l2, m =>
    if (ml_K m l0).1 = 11 then
    if (ml_I m l0 9) ≤ l2 then
    fX11_nextRow_94 k50 l0 l1 l2 m
    else
    ml_b1 (fX11_isTaken l0 l2 l1 m) fun r2398 =>
    if r2398 = 0 then
    fX11_nextRow_94 k50 l0 l1 l2 m
    else
    (fX11_nextRow_71 k50 fu) l0 l1 (l2 + (1 : Int32)) m
    else none
def fX11_nextRow_132 (l0 : Nat) (l1 : Int32) (m : ml_M) : Option (Int32 × ml_M) :=
    if (ml_K m l0).1 = 11 then
    if l1 = (ml_I m l0 10) then
    some ((1 : Int32), m)
    else
    some ((0 : Int32), m)
    else none
def fX11_nextRow_50 : Nat → Nat → Int32 → ml_M → Option (Int32 × ml_M)
  | 0, _, _, _ => none
  | fu + 1, l0, l1, m =>
    if l1 < 0 then
    fX11_nextRow_132 l0 l1 m
    else
    if (ml_K m l0).1 = 11 then
    if (ml_I m l0 10) ≤ l1 then
    fX11_nextRow_132 l0 l1 m
    else
    ml_let (ml_R m l0 27) fun a2401 =>
    if ml_in m a2401 20 l1 then
    ml_let ((ml_I m a2401 l1.toNatClampNeg) + (1 : Int32)) fun x2403 =>
    fX11_nextRow_71 (fX11_nextRow_50 fu) ml_fu l0 l1 x2403 m
    else none
    else none
def fX11_nextRow_17 (l0 : Nat) (t0 : Int32) (m : ml_M) : Option (Int32 × ml_M) :=
    if (ml_K m l0).1 = 11 then
    if (ml_I m l0 10) = 0 then
    if (ml_I m l0 28) = 0 then
    fX11_nextRow_37 l0 (1 : Int32) m
    else
    fX11_nextRow_37 l0 (0 : Int32) m
    else
    ml_let (ml_sI m l0 28 (1 : Int32)) fun m2405 =>
    fX11_nextRow_50 ml_fu l0 t0 m2405
    else none
def fX11_nextRow (l0 : Nat) (m : ml_M) : Option (Int32 × ml_M) :=
    if (ml_K m l0).1 = 11 then
    if (ml_I m l0 28) = 0 then
    fX11_nextRow_17 l0 (0 : Int32) m
    else
    fX11_nextRow_17 l0 ((ml_I m l0 10) - (1 : Int32)) m
    else none
def fX11_isSharing_99 (k33 : Nat → Int32 → Int32 → Int32 → ml_M → Option Int32) (l0 : Nat) (l1 : Int32) (l3 : Int32) (t0 : Int32) (m : ml_M) : Option Int32 :=
    k33 l0 l1 t0 (l3 + (1 : Int32)) m
def fX11_isSharing_106 (l0 : Nat) (l1 : Int32) (l2 : Int32) (m : ml_M) : Option Int32 :=
    if l2 = 0 then
    some (0 : Int32)
    else
    if (ml_K m l0).1 = 11 then
    ml_b1 (fX11_coversAll l0 l1 m) fun r2410 =>
    if r2410 = 0 then
    some (0 : Int32)
    else
    some (1 : Int32)
    else none
def fX11_isSharing_33 : Nat → Nat → Int32 → Int32 → Int32 → ml_M → Option Int32
  | 0, _, _, _, _, _ => none
  | fu + 1, l0, l1, l2, l3, m =>
    if (ml_K m l0).1 = 11 then
    if (ml_I m l0 11) ≤ l3 then
    fX11_isSharing_106 l0 l1 l2 m
    else
    if l2 = 0 then
    fX11_isSharing_106 l0 l1 l2 m
    else
    ml_let (ml_R m l0 12) fun a2412 =>
    ml_let (ml_R m l0 27) fun a2413 =>
    ml_let (ml_R m l0 14) fun a2414 =>
    if ml_in m a2414 20 (((2 : Int32) * l3) + (1 : Int32)) then
    if ml_in m a2413 20 (ml_I m a2414 (((2 : Int32) * l3) + (1 : Int32)).toNatClampNeg) then
    if ml_in m a2412 20 (((5 : Int32) * (ml_I m a2413 (ml_I m a2414 (((2 : Int32) * l3) + (1 : Int32)).toNatClampNeg).toNatClampNeg)) + (1 : Int32)) then
    ml_let (ml_R m l0 12) fun a2418 =>
    ml_let (ml_R m l0 27) fun a2419 =>
    ml_let (ml_R m l0 14) fun a2420 =>
    if ml_in m a2420 20 ((2 : Int32) * l3) then
    if ml_in m a2419 20 (ml_I m a2420 ((2 : Int32) * l3).toNatClampNeg) then
    if ml_in m a2418 20 (((5 : Int32) * (ml_I m a2419 (ml_I m a2420 ((2 : Int32) * l3).toNatClampNeg).toNatClampNeg)) + (1 : Int32)) then
    if (ml_I m a2412 (((5 : Int32) * (ml_I m a2413 (ml_I m a2414 (((2 : Int32) * l3) + (1 : Int32)).toNatClampNeg).toNatClampNeg)) + (1 : Int32)).toNatClampNeg) < (ml_I m a2418 (((5 : Int32) * (ml_I m a2419 (ml_I m a2420 ((2 : Int32) * l3).toNatClampNeg).toNatClampNeg)) + (1 : Int32)).toNatClampNeg) then
    fX11_isSharing_99 (fX11_isSharing_33 fu) l0 l1 l3 (0 : Int32) m
    else
    fX11_isSharing_99 (fX11_isSharing_33 fu) l0 l1 l3 (1 : Int32) m
    else none
    else none
    else none
    else none
    else none
    else none
    else none
def fX11_isSharing_29 (l0 : Nat) (l1 : Int32) (m : ml_M) : Option Int32 :=
    fX11_isSharing_33 ml_fu l0 l1 (1 : Int32) (0 : Int32) m
def fX11_isSharing_4 : Nat → Nat → Int32 → Int32 → ml_M → Option Int32
  | 0, _, _, _, _ => none
  | fu + 1, l0, l1, l2, m =>
    if (ml_K m l0).1 = 11 then
    if (ml_I m l0 10) ≤ l2 then
    fX11_isSharing_29 l0 l1 m
    else
    ml_let (ml_R m l0 27) fun a2425 =>
    if ml_in m a2425 20 l2 then
    ml_let (l1 ||| ((1 : Int32) <<< ((ml_I m a2425 l2.toNatClampNeg) &&& 31))) fun x2427 =>
    (fX11_isSharing_4 fu) l0 x2427 (l2 + (1 : Int32)) m
    else none
    else none
def fX11_isSharing (l0 : Nat) (m : ml_M) : Option Int32 :=
    fX11_isSharing_4 ml_fu l0 (0 : Int32) (0 : Int32) m
def fX11_isMoved (l0 : Nat) (l1 : Int32) (m : ml_M) : Option Int32 :=
    if (ml_K m l0).1 = 11 then
    ml_b1 (fX11_trunkOf l0 l1 m) fun r2430 =>
    if r2430 = (-9 : Int32) then
    some (0 : Int32)
    else
    ml_let (ml_R m l0 27) fun a2431 =>
    ml_b1 (fX11_trunkOf l0 l1 m) fun r2433 =>
    if ml_in m a2431 20 r2433 then
    ml_b1 (fX11_mayHave l0 (ml_I m a2431 r2433.toNatClampNeg) l1 m) fun r2436 =>
    if r2436 = 0 then
    some (1 : Int32)
    else
    some (0 : Int32)
    else none
    else none
def fX11_movedMany_26 (k4 : Nat → Int32 → Int32 → ml_M → Option Int32) (l0 : Nat) (l2 : Int32) (t0 : Int32) (t1 : Int32) (m : ml_M) : Option Int32 :=
    ml_let (t1 + t0) fun x2437 =>
    k4 l0 x2437 (l2 + (1 : Int32)) m
def fX11_movedMany_4 : Nat → Nat → Int32 → Int32 → ml_M → Option Int32
  | 0, _, _, _, _ => none
  | fu + 1, l0, l1, l2, m =>
    if (ml_K m l0).1 = 11 then
    if (ml_I m l0 24) ≤ l2 then
    some l1
    else
    ml_b1 (fX11_isMoved l0 l2 m) fun r2440 =>
    if r2440 = 0 then
    fX11_movedMany_26 (fX11_movedMany_4 fu) l0 l2 (0 : Int32) l1 m
    else
    fX11_movedMany_26 (fX11_movedMany_4 fu) l0 l2 (1 : Int32) l1 m
    else none
def fX11_movedMany (l0 : Nat) (m : ml_M) : Option Int32 :=
    fX11_movedMany_4 ml_fu l0 (0 : Int32) (0 : Int32) m
def fX11_nextSharing_24 (k5 : Nat → Int32 → Int32 → ml_M → Option (Int32 × ml_M)) (l0 : Nat) (l1 : Int32) (m : ml_M) : Option (Int32 × ml_M) :=
    if (ml_K m l0).1 = 11 then
    ml_b2 (fX11_nextRow l0 m) fun r2443 m2444 =>
    k5 l0 l1 r2443 m2444
    else none
def fX11_nextSharing_5 : Nat → Nat → Int32 → Int32 → ml_M → Option (Int32 × ml_M)
  | 0, _, _, _, _ => none
  | fu + 1, l0, l1, l2, m =>
    if l2 = 0 then
    if l2 = 0 ∨ l2 = 1 then some (l2, m) else none
    else
    if (ml_K m l0).1 = 11 then
    ml_b1 (fX11_isSharing l0 m) fun r2448 =>
    if r2448 = 0 then
    fX11_nextSharing_24 (fX11_nextSharing_5 fu) l0 l1 m
    else
    ml_b1 (fX11_movedMany l0 m) fun r2450 =>
    if r2450 ≤ l1 then
    if l2 = 0 ∨ l2 = 1 then some (l2, m) else none
    else
    fX11_nextSharing_24 (fX11_nextSharing_5 fu) l0 l1 m
    else none
def fX11_nextSharing (l0 : Nat) (l1 : Int32) (m : ml_M) : Option (Int32 × ml_M) :=
    if (ml_K m l0).1 = 11 then
    ml_b2 (fX11_nextRow l0 m) fun r2454 m2455 =>
    fX11_nextSharing_5 ml_fu l0 l1 r2454 m2455
    else none
def fX11_share_72 (k16 : Nat → Int32 → Int32 → ml_M → Option (Int32 × ml_M)) (l0 : Nat) (l1 : Int32) (l2 : Int32) (m : ml_M) : Option (Int32 × ml_M) :=
    k16 l0 l1 l2 m
def fX11_share_46 (k16 : Nat → Int32 → Int32 → ml_M → Option (Int32 × ml_M)) : Nat → Nat → Int32 → Int32 → Int32 → ml_M → Option (Int32 × ml_M)
  | 0, _, _, _, _, _ => none
  | fu + 1, l0, l1, l2, l3, m =>
    if (ml_K m l0).1 = 11 then
    if (ml_I m l0 10) ≤ l3 then
    fX11_share_72 k16 l0 l1 l2 m
    else
    ml_let (ml_R m l0 29) fun a2457 =>
    ml_let (ml_R m l0 27) fun a2458 =>
    if ml_in m a2458 20 l3 then
    if ml_in m a2457 20 l3 then
    ml_let (ml_sI m a2457 l3.toNatClampNeg (ml_I m a2458 l3.toNatClampNeg)) fun m2461 =>
    (fX11_share_46 k16 fu) l0 l1 l2 (l3 + (1 : Int32)) m2461
    else none
    else none
    else none
def fX11_share_39 (k16 : Nat → Int32 → Int32 → ml_M → Option (Int32 × ml_M)) (l0 : Nat) (l1 : Int32) (m : ml_M) : Option (Int32 × ml_M) :=
    if (ml_K m l0).1 = 11 then
    ml_b1 (fX11_movedMany l0 m) fun r2465 =>
    fX11_share_46 k16 ml_fu l0 l1 r2465 (0 : Int32) m
    else none
def fX11_share_95 : Nat → Nat → Int32 → Int32 → Int32 → ml_M → Option (Int32 × ml_M)
  | 0, _, _, _, _, _ => none
  | fu + 1, l0, l1, l2, l3, m =>
    if (ml_K m l0).1 = 11 then
    if (ml_I m l0 10) ≤ l3 then
    some (l2, m)
    else
    ml_let (ml_R m l0 5) fun a2467 =>
    ml_let (ml_R m l0 29) fun a2468 =>
    if ml_in m a2468 20 l3 then
    if ml_in m a2467 20 (((48 : Int32) * l1) + l3) then
    ml_let (ml_sI m a2467 (((48 : Int32) * l1) + l3).toNatClampNeg (ml_I m a2468 l3.toNatClampNeg)) fun m2471 =>
    (fX11_share_95 fu) l0 l1 l2 (l3 + (1 : Int32)) m2471
    else none
    else none
    else none
def fX11_share_75 (l0 : Nat) (l1 : Int32) (l2 : Int32) (m : ml_M) : Option (Int32 × ml_M) :=
    if l2 = (-9 : Int32) then
    some ((-9 : Int32), m)
    else
    if (ml_K m l0).1 = 11 then
    ml_b1 (fX11_clear l0 l1 (ml_I m l0 10) m) fun m2475 =>
    fX11_share_95 ml_fu l0 l1 l2 (0 : Int32) m2475
    else none
def fX11_share_16 : Nat → Nat → Int32 → Int32 → ml_M → Option (Int32 × ml_M)
  | 0, _, _, _, _ => none
  | fu + 1, l0, l1, l2, m =>
    if (ml_K m l0).1 = 11 then
    ml_b2 (fX11_nextSharing l0 (20 : Int32) m) fun r2478 m2479 =>
    if r2478 = 0 then
    fX11_share_75 l0 l1 l2 m2479
    else
    if l2 = (-9 : Int32) then
    fX11_share_39 (fX11_share_16 fu) l0 l1 m2479
    else
    if (ml_K m2479 l0).1 = 11 then
    ml_b1 (fX11_movedMany l0 m2479) fun r2482 =>
    if l2 ≤ r2482 then
    (fX11_share_16 fu) l0 l1 l2 m2479
    else
    fX11_share_39 (fX11_share_16 fu) l0 l1 m2479
    else none
    else none
def fX11_share (l0 : Nat) (l1 : Int32) (m : ml_M) : Option (Int32 × ml_M) :=
    ml_b1 (fX11_isRow l1 m) fun r2484 =>
    if r2484 = 0 then
    some ((-1 : Int32), m)
    else
    if (ml_K m l0).1 = 11 then
    ml_b1 (fX11_beginSharings l0 m) fun m2487 =>
    fX11_share_16 ml_fu l0 l1 (-9 : Int32) m2487
    else none
def fX11_isMost (l0 : Int32) (m : ml_M) : Option Int32 :=
    ml_b1 (fX11_in l0 (0 : Int32) (20 : Int32) m) fun r2499 =>
    if r2499 = 0 ∨ r2499 = 1 then some r2499 else none
def fX11_layOften_114 (k47 : Nat → Int32 → ml_M → Option ml_M) (l0 : Nat) (l1 : Int32) (l2 : Int32) (m : ml_M) : Option ml_M :=
    if (ml_K m l0).1 = 11 then
    ml_let (ml_sI m l0 32 ((ml_I m l0 32) &&& l2)) fun m2502 =>
    ml_let (ml_sI m2502 l0 33 ((ml_I m2502 l0 33) ||| l2)) fun m2504 =>
    k47 l0 l1 m2504
    else none
def fX11_layOften_69 (k47 : Nat → Int32 → ml_M → Option ml_M) : Nat → Nat → Int32 → Int32 → Int32 → ml_M → Option ml_M
  | 0, _, _, _, _, _ => none
  | fu + 1, l0, l1, l2, l3, m =>
    if (ml_K m l0).1 = 11 then
    if (ml_I m l0 10) ≤ l3 then
    fX11_layOften_114 k47 l0 l1 l2 m
    else
    ml_let (ml_R m l0 31) fun a2507 =>
    ml_let (ml_R m l0 27) fun a2508 =>
    if ml_in m a2508 20 l3 then
    if ml_in m a2507 20 (((8 : Int32) * l3) + (ml_I m a2508 l3.toNatClampNeg)) then
    if ml_in m a2507 20 (((8 : Int32) * l3) + (ml_I m a2508 l3.toNatClampNeg)) then
    ml_let (ml_sI m a2507 (((8 : Int32) * l3) + (ml_I m a2508 l3.toNatClampNeg)).toNatClampNeg ((ml_I m a2507 (((8 : Int32) * l3) + (ml_I m a2508 l3.toNatClampNeg)).toNatClampNeg) + (1 : Int32))) fun m2512 =>
    ml_let (ml_R m2512 l0 27) fun a2514 =>
    if ml_in m2512 a2514 20 l3 then
    ml_let (l2 ||| ((1 : Int32) <<< ((ml_I m2512 a2514 l3.toNatClampNeg) &&& 31))) fun x2516 =>
    (fX11_layOften_69 k47 fu) l0 l1 x2516 (l3 + (1 : Int32)) m2512
    else none
    else none
    else none
    else none
    else none
def fX11_layOften_47 : Nat → Nat → Int32 → ml_M → Option ml_M
  | 0, _, _, _ => none
  | fu + 1, l0, l1, m =>
    if (ml_K m l0).1 = 11 then
    ml_b2 (fX11_nextSharing l0 l1 m) fun r2519 m2520 =>
    if r2519 = 0 then
    some m2520
    else
    if (ml_K m2520 l0).1 = 11 then
    ml_let (ml_sI m2520 l0 30 ((ml_I m2520 l0 30) + (1 : Int32))) fun m2522 =>
    fX11_layOften_69 (fX11_layOften_47 fu) ml_fu l0 l1 (0 : Int32) (0 : Int32) m2522
    else none
    else none
def fX11_layOften_43 (l0 : Nat) (l1 : Int32) (m : ml_M) : Option ml_M :=
    if (ml_K m l0).1 = 11 then
    ml_b1 (fX11_beginSharings l0 m) fun m2526 =>
    fX11_layOften_47 ml_fu l0 l1 m2526
    else none
def fX11_layOften_24 : Nat → Nat → Int32 → Int32 → ml_M → Option ml_M
  | 0, _, _, _, _ => none
  | fu + 1, l0, l1, l2, m =>
    if (64 : Int32) ≤ l2 then
    fX11_layOften_43 l0 l1 m
    else
    if (ml_K m l0).1 = 11 then
    ml_let (ml_R m l0 31) fun a2528 =>
    if ml_in m a2528 20 l2 then
    ml_let (ml_sI m a2528 l2.toNatClampNeg (0 : Int32)) fun m2530 =>
    (fX11_layOften_24 fu) l0 l1 (l2 + (1 : Int32)) m2530
    else none
    else none
def fX11_layOften (l0 : Nat) (l1 : Int32) (m : ml_M) : Option ml_M :=
    if (ml_K m l0).1 = 11 then
    ml_let (ml_sI m l0 30 (0 : Int32)) fun m2533 =>
    ml_let (ml_sI m2533 l0 32 (((1 : Int32) <<< ((ml_I m2533 l0 9) &&& 31)) - (1 : Int32))) fun m2535 =>
    ml_let (ml_sI m2535 l0 33 (0 : Int32)) fun m2537 =>
    fX11_layOften_24 ml_fu l0 l1 (0 : Int32) m2537
    else none
def fX11_ways (l0 : Nat) (l1 : Int32) (m : ml_M) : Option (Int32 × ml_M) :=
    ml_b1 (fX11_isMost l1 m) fun r2540 =>
    if r2540 = 0 then
    some ((-1 : Int32), m)
    else
    if (ml_K m l0).1 = 11 then
    ml_b1 (fX11_layOften l0 l1 m) fun m2543 =>
    if (ml_K m2543 l0).1 = 11 then
    some ((ml_I m2543 l0 30), m2543)
    else none
    else none
def fX11_whose_60 (k27 : Nat → Int32 → Int32 → Int32 → ml_M → Option (Int32 × ml_M)) (l0 : Nat) (l1 : Int32) (l4 : Int32) (t0 : Int32) (t1 : Int32) (m : ml_M) : Option (Int32 × ml_M) :=
    ml_let (t1 ||| t0) fun x2563 =>
    k27 l0 l1 x2563 (l4 + (1 : Int32)) m
def fX11_whose_27 : Nat → Nat → Int32 → Int32 → Int32 → ml_M → Option (Int32 × ml_M)
  | 0, _, _, _, _, _ => none
  | fu + 1, l0, l1, l3, l4, m =>
    if (ml_K m l0).1 = 11 then
    if (ml_I m l0 9) ≤ l4 then
    some (l3, m)
    else
    ml_let (ml_R m l0 31) fun a2565 =>
    if ml_in m a2565 20 (((8 : Int32) * l1) + l4) then
    if (ml_I m a2565 (((8 : Int32) * l1) + l4).toNatClampNeg) ≤ 0 then
    fX11_whose_60 (fX11_whose_27 fu) l0 l1 l4 (0 : Int32) l3 m
    else
    fX11_whose_60 (fX11_whose_27 fu) l0 l1 l4 ((1 : Int32) <<< (l4 &&& 31)) l3 m
    else none
    else none
def fX11_whose (l0 : Nat) (l1 : Int32) (l2 : Int32) (m : ml_M) : Option (Int32 × ml_M) :=
    if (ml_K m l0).1 = 11 then
    ml_b1 (fX11_isTrunk l0 l1 m) fun r2569 =>
    if r2569 = 0 then
    some ((-1 : Int32), m)
    else
    ml_b1 (fX11_isMost l2 m) fun r2571 =>
    if r2571 = 0 then
    some ((-1 : Int32), m)
    else
    ml_b1 (fX11_layOften l0 l2 m) fun m2573 =>
    fX11_whose_27 ml_fu l0 l1 (0 : Int32) (0 : Int32) m2573
    else none
def fX11_sure (l0 : Nat) (l1 : Int32) (m : ml_M) : Option (Int32 × ml_M) :=
    ml_b1 (fX11_isMost l1 m) fun r2602 =>
    if r2602 = 0 then
    some ((-1 : Int32), m)
    else
    if (ml_K m l0).1 = 11 then
    ml_b1 (fX11_layOften l0 l1 m) fun m2605 =>
    if (ml_K m2605 l0).1 = 11 then
    if (ml_I m2605 l0 30) = 0 then
    some ((-9 : Int32), m2605)
    else
    ml_b2 (fX11_tells l0 (ml_I m2605 l0 33) (ml_I m2605 l0 32) m2605) fun r2608 m2609 =>
    some (r2608, m2609)
    else none
    else none
def fX11_next_89 (k22 : Nat → Int32 → Int32 → Int32 → ml_M → Option (Int32 × ml_M)) (k44 : Nat → Int32 → Int32 → Int32 → Int32 → Int32 → ml_M → Option (Int32 × ml_M)) (l0 : Nat) (l2 : Int32) (l3 : Int32) (l4 : Int32) (l6 : Int32) (t0 : Int32) (m : ml_M) : Option (Int32 × ml_M) :=
    k44 l0 l2 l3 l4 t0 (l6 + (1 : Int32)) m
def fX11_next_115 (k22 : Nat → Int32 → Int32 → Int32 → ml_M → Option (Int32 × ml_M)) (l0 : Nat) (l2 : Int32) (l3 : Int32) (l4 : Int32) (m : ml_M) : Option (Int32 × ml_M) :=
    k22 l0 l2 l3 (l4 + (1 : Int32)) m
def fX11_next_109 (k22 : Nat → Int32 → Int32 → Int32 → ml_M → Option (Int32 × ml_M)) (l0 : Nat) (l4 : Int32) (l5 : Int32) (m : ml_M) : Option (Int32 × ml_M) :=
    fX11_next_115 k22 l0 l4 l5 l4 m
def fX11_next_97 (k22 : Nat → Int32 → Int32 → Int32 → ml_M → Option (Int32 × ml_M)) (l0 : Nat) (l2 : Int32) (l3 : Int32) (l4 : Int32) (l5 : Int32) (m : ml_M) : Option (Int32 × ml_M) :=
    if l2 = (-9 : Int32) then
    fX11_next_109 k22 l0 l4 l5 m
    else
    if l3 ≤ l5 then
    fX11_next_115 k22 l0 l2 l3 l4 m
    else
    fX11_next_109 k22 l0 l4 l5 m
def fX11_next_44 (k22 : Nat → Int32 → Int32 → Int32 → ml_M → Option (Int32 × ml_M)) : Nat → Nat → Int32 → Int32 → Int32 → Int32 → Int32 → ml_M → Option (Int32 × ml_M)
  | 0, _, _, _, _, _, _, _ => none
  | fu + 1, l0, l2, l3, l4, l5, l6, m =>
    if (ml_K m l0).1 = 11 then
    if (ml_I m l0 9) ≤ l6 then
    fX11_next_97 k22 l0 l2 l3 l4 l5 m
    else
    ml_let (ml_R m l0 31) fun a2637 =>
    if ml_in m a2637 20 (((8 : Int32) * l4) + l6) then
    if (ml_I m a2637 (((8 : Int32) * l4) + l6).toNatClampNeg) ≤ l5 then
    fX11_next_89 k22 (fX11_next_44 k22 fu) l0 l2 l3 l4 l6 l5 m
    else
    ml_let (ml_R m l0 31) fun a2639 =>
    if ml_in m a2639 20 (((8 : Int32) * l4) + l6) then
    fX11_next_89 k22 (fX11_next_44 k22 fu) l0 l2 l3 l4 l6 (ml_I m a2639 (((8 : Int32) * l4) + l6).toNatClampNeg) m
    else none
    else none
    else none
def fX11_next_121 (l0 : Nat) (l2 : Int32) (l3 : Int32) (m : ml_M) : Option (Int32 × ml_M) :=
    if l2 = (-9 : Int32) then
    some ((-9 : Int32), m)
    else
    if (ml_K m l0).1 = 11 then
    ml_b2 (fX11_tells l0 l3 l2 m) fun r2643 m2644 =>
    some (r2643, m2644)
    else none
def fX11_next_22 : Nat → Nat → Int32 → Int32 → Int32 → ml_M → Option (Int32 × ml_M)
  | 0, _, _, _, _, _ => none
  | fu + 1, l0, l2, l3, l4, m =>
    if (ml_K m l0).1 = 11 then
    if (ml_I m l0 10) ≤ l4 then
    fX11_next_121 l0 l2 l3 m
    else
    if (ml_I m l0 30) ≤ 0 then
    fX11_next_121 l0 l2 l3 m
    else
    fX11_next_44 (fX11_next_22 fu) ml_fu l0 l2 l3 l4 (0 : Int32) (0 : Int32) m
    else none
def fX11_next (l0 : Nat) (l1 : Int32) (m : ml_M) : Option (Int32 × ml_M) :=
    ml_b1 (fX11_isMost l1 m) fun r2647 =>
    if r2647 = 0 then
    some ((-1 : Int32), m)
    else
    if (ml_K m l0).1 = 11 then
    ml_b1 (fX11_layOften l0 l1 m) fun m2650 =>
    fX11_next_22 ml_fu l0 (-9 : Int32) (0 : Int32) (0 : Int32) m2650
    else none
def fX11_moves_117 (k55 : Nat → Int32 → Int32 → Int32 → Int32 → ml_M → Option (Int32 × ml_M)) (l0 : Nat) (l1 : Int32) (l2 : Int32) (l4 : Int32) (t0 : Int32) (m : ml_M) : Option (Int32 × ml_M) :=
    k55 l0 l1 l2 t0 (l4 + (1 : Int32)) m
def fX11_moves_116 (k55 : Nat → Int32 → Int32 → Int32 → Int32 → ml_M → Option (Int32 × ml_M)) (l0 : Nat) (l1 : Int32) (l2 : Int32) (l4 : Int32) (m : ml_M) : Option (Int32 × ml_M) :=
    fX11_moves_117 k55 l0 l1 l2 l4 (0 : Int32) m
def fX11_moves_135 (l0 : Nat) (m : ml_M) : Option (Int32 × ml_M) :=
    if (ml_K m l0).1 = 11 then
    ml_b2 (fX11_meets l0 (3 : Int32) m) fun r2740 m2741 =>
    some (r2740, m2741)
    else none
def fX11_moves_233 (k153 : Nat → Int32 → Int32 → Int32 → ml_M → Option (Int32 × ml_M)) (l0 : Nat) (l2 : Int32) (l4 : Int32) (l5 : Int32) (m : ml_M) : Option (Int32 × ml_M) :=
    k153 l0 l2 l4 (l5 + (1 : Int32)) m
def fX11_moves_196 (k153 : Nat → Int32 → Int32 → Int32 → ml_M → Option (Int32 × ml_M)) (l0 : Nat) (l2 : Int32) (l4 : Int32) (l5 : Int32) (l6 : Int32) (m : ml_M) : Option (Int32 × ml_M) :=
    if (ml_K m l0).1 = 11 then
    ml_let (ml_R m l0 5) fun a2743 =>
    if ml_in m a2743 20 (((48 : Int32) * l2) + ((2 : Int32) * l4)) then
    ml_let (ml_sI m a2743 (((48 : Int32) * l2) + ((2 : Int32) * l4)).toNatClampNeg l5) fun m2745 =>
    ml_let (ml_R m2745 l0 5) fun a2747 =>
    if ml_in m2745 a2747 20 ((((48 : Int32) * l2) + ((2 : Int32) * l4)) + (1 : Int32)) then
    ml_let (ml_sI m2745 a2747 ((((48 : Int32) * l2) + ((2 : Int32) * l4)) + (1 : Int32)).toNatClampNeg l6) fun m2749 =>
    fX11_moves_233 k153 l0 l2 (l4 + (1 : Int32)) l5 m2749
    else none
    else none
    else none
def fX11_moves_174 (k153 : Nat → Int32 → Int32 → Int32 → ml_M → Option (Int32 × ml_M)) : Nat → Nat → Int32 → Int32 → Int32 → Int32 → ml_M → Option (Int32 × ml_M)
  | 0, _, _, _, _, _, _ => none
  | fu + 1, l0, l2, l4, l5, l6, m =>
    if (ml_K m l0).1 = 11 then
    ml_let (ml_R m l0 27) fun a2752 =>
    if ml_in m a2752 20 l6 then
    ml_b1 (fX11_mayHave l0 (ml_I m a2752 l6.toNatClampNeg) l5 m) fun r2755 =>
    if r2755 = 0 then
    (fX11_moves_174 k153 fu) l0 l2 l4 l5 (l6 + (1 : Int32)) m
    else
    fX11_moves_196 k153 l0 l2 l4 l5 l6 m
    else none
    else none
def fX11_moves_239 (l0 : Nat) (l2 : Int32) (l4 : Int32) (m : ml_M) : Option (Int32 × ml_M) :=
    if (ml_K m l0).1 = 11 then
    ml_let (ml_R m l0 4) fun a2757 =>
    if ml_in m a2757 20 l2 then
    ml_let (ml_sI m a2757 l2.toNatClampNeg ((2 : Int32) * l4)) fun m2759 =>
    some (l4, m2759)
    else none
    else none
def fX11_moves_153 : Nat → Nat → Int32 → Int32 → Int32 → ml_M → Option (Int32 × ml_M)
  | 0, _, _, _, _, _ => none
  | fu + 1, l0, l2, l4, l5, m =>
    if (ml_K m l0).1 = 11 then
    if (ml_I m l0 24) ≤ l5 then
    fX11_moves_239 l0 l2 l4 m
    else
    ml_b1 (fX11_isMoved l0 l5 m) fun r2763 =>
    if r2763 = 0 then
    fX11_moves_233 (fX11_moves_153 fu) l0 l2 l4 l5 m
    else
    fX11_moves_174 (fX11_moves_153 fu) ml_fu l0 l2 l4 l5 (0 : Int32) m
    else none
def fX11_moves_124 (l0 : Nat) (l2 : Int32) (l3 : Int32) (m : ml_M) : Option (Int32 × ml_M) :=
    if l3 = 0 then
    fX11_moves_135 l0 m
    else
    if (ml_K m l0).1 = 11 then
    ml_b1 (fX11_isSharing l0 m) fun r2766 =>
    if r2766 = 0 then
    fX11_moves_135 l0 m
    else
    ml_b1 (fX11_clear l0 l2 (0 : Int32) m) fun m2768 =>
    fX11_moves_153 ml_fu l0 l2 (0 : Int32) (0 : Int32) m2768
    else none
def fX11_moves_55 : Nat → Nat → Int32 → Int32 → Int32 → Int32 → ml_M → Option (Int32 × ml_M)
  | 0, _, _, _, _, _, _ => none
  | fu + 1, l0, l1, l2, l3, l4, m =>
    if (ml_K m l0).1 = 11 then
    if (ml_I m l0 10) ≤ l4 then
    fX11_moves_124 l0 l2 l3 m
    else
    if l3 = 0 then
    fX11_moves_124 l0 l2 l3 m
    else
    ml_let (ml_R m l0 27) fun a2770 =>
    ml_b1 (fX11_rowAt l0 l1 l4 m) fun r2772 =>
    if ml_in m a2770 20 l4 then
    ml_let (ml_sI m a2770 l4.toNatClampNeg r2772) fun m2774 =>
    ml_let (ml_R m2774 l0 27) fun a2776 =>
    if ml_in m2774 a2776 20 l4 then
    ml_b1 (fX11_isLodger l0 (ml_I m2774 a2776 l4.toNatClampNeg) m2774) fun r2779 =>
    if r2779 = 0 then
    fX11_moves_116 (fX11_moves_55 fu) l0 l1 l2 l4 m2774
    else
    ml_let (ml_R m2774 l0 27) fun a2780 =>
    if ml_in m2774 a2780 20 l4 then
    ml_b1 (fX11_isTaken l0 (ml_I m2774 a2780 l4.toNatClampNeg) l4 m2774) fun r2783 =>
    if r2783 = 0 then
    fX11_moves_117 (fX11_moves_55 fu) l0 l1 l2 l4 (1 : Int32) m2774
    else
    fX11_moves_116 (fX11_moves_55 fu) l0 l1 l2 l4 m2774
    else none
    else none
    else none
    else none
def fX11_moves (l0 : Nat) (l1 : Int32) (l2 : Int32) (m : ml_M) : Option (Int32 × ml_M) :=
    ml_b1 (fX11_isRow l1 m) fun r2785 =>
    if r2785 = 0 then
    some ((-1 : Int32), m)
    else
    ml_b1 (fX11_isRow l2 m) fun r2787 =>
    if r2787 = 0 then
    some ((-1 : Int32), m)
    else
    if (ml_K m l0).1 = 11 then
    ml_let (ml_R m l0 4) fun a2789 =>
    if ml_in m a2789 20 l1 then
    if 0 ≤ (ml_I m a2789 l1.toNatClampNeg) then
    ml_let (ml_R m l0 4) fun a2791 =>
    if ml_in m a2791 20 l1 then
    if (ml_I m a2791 l1.toNatClampNeg) = (ml_I m l0 10) then
    fX11_moves_55 ml_fu l0 l1 l2 (1 : Int32) (0 : Int32) m
    else
    ml_b2 (fX11_meets l0 (5 : Int32) m) fun r2794 m2795 =>
    some (r2794, m2795)
    else none
    else
    ml_b2 (fX11_meets l0 (1 : Int32) m) fun r2797 m2798 =>
    some (r2797, m2798)
    else none
    else none
def fX5_init (l0 : Nat) (l1 : Int32) (l2 : Int32) (l3 : Int32) (m : ml_M) : Option ml_M :=
    if l0 ≠ 0 then
    if (ml_K m l0).1 = 5 then
    ml_let (ml_sI m l0 0 l1) fun m2801 =>
    ml_let (ml_sI m2801 l0 1 l2) fun m2803 =>
    ml_let (ml_sI m2803 l0 2 l3) fun m2805 =>
    some m2805
    else none
    else none
def fX10_line (l0 : Nat) (l1 : Int32) (l2 : Int32) (l3 : Int32) (m : ml_M) : Option (Int32 × ml_M) :=
    ml_b1 (fX10_within l1 (0 : Int32) (20 : Int32) m) fun r2808 =>
    if r2808 = 0 then
    some ((-1 : Int32), m)
    else
    ml_b1 (fX10_areYears l2 l3 m) fun r2810 =>
    if r2810 = 0 then
    some ((-1 : Int32), m)
    else
    if (ml_K m l0).1 = 10 then
    if (ml_I m l0 7) < (8 : Int32) then
    ml_let (ml_R m l0 6) fun a2812 =>
    ml_let (ml_n m + 1) fun a2813 =>
    ml_let (ml_al m 5 0 3) fun m2814 =>
    ml_b1 (fX5_init a2813 l1 l2 l3 m2814) fun m2818 =>
    if (ml_K m2818 a2813).1 = 5 then
    if ml_in m2818 a2812 27 (ml_I m l0 7) then
    ml_let (ml_sR m2818 a2812 (ml_I m l0 7).toNatClampNeg a2813) fun m2821 =>
    if (ml_K m2821 l0).1 = 10 then
    ml_let (ml_sI m2821 l0 7 ((ml_I m2821 l0 7) + (1 : Int32))) fun m2824 =>
    some ((ml_I m2821 l0 7), m2824)
    else none
    else none
    else none
    else
    some ((-2 : Int32), m)
    else none
def fX11_line (l0 : Nat) (l1 : Int32) (l2 : Int32) (l3 : Int32) (m : ml_M) : Option (Int32 × ml_M) :=
    ml_b1 (fX11_in l1 (0 : Int32) (20 : Int32) m) fun r2827 =>
    if r2827 = 0 then
    some ((-1 : Int32), m)
    else
    ml_b1 (fX11_isYears l2 l3 m) fun r2829 =>
    if r2829 = 0 then
    some ((-1 : Int32), m)
    else
    if (ml_K m l0).1 = 11 then
    if (ml_I m l0 34) = (8 : Int32) then
    some ((-2 : Int32), m)
    else
    ml_let (ml_R m l0 35) fun a2831 =>
    if ml_in m a2831 20 ((3 : Int32) * (ml_I m l0 34)) then
    ml_let (ml_sI m a2831 ((3 : Int32) * (ml_I m l0 34)).toNatClampNeg l1) fun m2833 =>
    ml_let (ml_R m2833 l0 35) fun a2835 =>
    if ml_in m2833 a2835 20 (((3 : Int32) * (ml_I m2833 l0 34)) + (1 : Int32)) then
    ml_let (ml_sI m2833 a2835 (((3 : Int32) * (ml_I m2833 l0 34)) + (1 : Int32)).toNatClampNeg l2) fun m2837 =>
    ml_let (ml_R m2837 l0 35) fun a2839 =>
    if ml_in m2837 a2839 20 (((3 : Int32) * (ml_I m2837 l0 34)) + (2 : Int32)) then
    ml_let (ml_sI m2837 a2839 (((3 : Int32) * (ml_I m2837 l0 34)) + (2 : Int32)).toNatClampNeg l3) fun m2841 =>
    ml_let (ml_sI m2841 l0 34 ((ml_I m2841 l0 34) + (1 : Int32))) fun m2843 =>
    some (((ml_I m2843 l0 34) - (1 : Int32)), m2843)
    else none
    else none
    else none
    else none
def fX10_fitsTrunk_64 (k5 : Nat → Nat → Int32 → Int32 → Int32 → ml_M → Option Int32) (l0 : Nat) (l1 : Nat) (l2 : Int32) (l3 : Int32) (l4 : Int32) (m : ml_M) : Option Int32 :=
    k5 l0 l1 l2 l3 (l4 + (1 : Int32)) m
def fX10_fitsTrunk_70 (l1 : Nat) (l3 : Int32) (m : ml_M) : Option Int32 :=
    if (ml_K m l1).1 = 5 then
    if l3 = (ml_I m l1 0) then
    some (1 : Int32)
    else
    some (0 : Int32)
    else none
def fX10_fitsTrunk_5 : Nat → Nat → Nat → Int32 → Int32 → Int32 → ml_M → Option Int32
  | 0, _, _, _, _, _, _ => none
  | fu + 1, l0, l1, l2, l3, l4, m =>
    if (ml_K m l0).1 = 10 then
    if (ml_I m l0 5) ≤ l4 then
    fX10_fitsTrunk_70 l1 l3 m
    else
    ml_let (ml_R m l0 4) fun a2847 =>
    if ml_in m a2847 29 l4 then
    ml_let (ml_R m a2847 l4.toNatClampNeg) fun a2849 =>
    if (ml_K m a2849).1 = 8 then
    if (ml_I m a2849 6) = l2 then
    if (ml_K m l1).1 = 5 then
    if (ml_I m a2849 2) < (ml_I m l1 1) then
    some (0 : Int32)
    else
    if (ml_I m a2849 1) ≤ (ml_I m l1 2) then
    fX10_fitsTrunk_64 (fX10_fitsTrunk_5 fu) l0 l1 l2 (l3 + (1 : Int32)) l4 m
    else
    some (0 : Int32)
    else none
    else
    fX10_fitsTrunk_64 (fX10_fitsTrunk_5 fu) l0 l1 l2 l3 l4 m
    else none
    else none
    else none
def fX10_fitsTrunk (l0 : Nat) (l1 : Nat) (l2 : Int32) (m : ml_M) : Option Int32 :=
    fX10_fitsTrunk_5 ml_fu l0 l1 l2 (0 : Int32) (0 : Int32) m
def fX10_trunksForLines_53 (k9 : Nat → Nat → Int32 → ml_M → Option (Nat × ml_M)) (k19 : Nat → Nat → Int32 → Int32 → ml_M → Option (Nat × ml_M)) (l0 : Nat) (l1 : Nat) (l2 : Int32) (l3 : Int32) (m : ml_M) : Option (Nat × ml_M) :=
    k19 l0 l1 l2 (l3 + (1 : Int32)) m
def fX10_trunksForLines_59 (k9 : Nat → Nat → Int32 → ml_M → Option (Nat × ml_M)) (l0 : Nat) (l1 : Nat) (l2 : Int32) (m : ml_M) : Option (Nat × ml_M) :=
    k9 l0 l1 (l2 + (1 : Int32)) m
def fX10_trunksForLines_19 (k9 : Nat → Nat → Int32 → ml_M → Option (Nat × ml_M)) : Nat → Nat → Nat → Int32 → Int32 → ml_M → Option (Nat × ml_M)
  | 0, _, _, _, _, _ => none
  | fu + 1, l0, l1, l2, l3, m =>
    if (ml_K m l0).1 = 10 then
    ml_let (ml_R m l0 2) fun a2853 =>
    if (ml_K m a2853).1 = 1 then
    if (ml_I m a2853 3) ≤ l3 then
    fX10_trunksForLines_59 k9 l0 l1 l2 m
    else
    ml_let (ml_R m l0 6) fun a2855 =>
    if ml_in m a2855 27 l2 then
    ml_let (ml_R m a2855 l2.toNatClampNeg) fun a2857 =>
    ml_b1 (fX10_fitsTrunk l0 a2857 l3 m) fun r2859 =>
    if r2859 = 0 then
    fX10_trunksForLines_53 k9 (fX10_trunksForLines_19 k9 fu) l0 l1 l2 l3 m
    else
    if ml_in m l1 20 l2 then
    if ml_in m l1 20 l2 then
    ml_let (ml_sI m l1 l2.toNatClampNeg ((ml_I m l1 l2.toNatClampNeg) ||| ((1 : Int32) <<< (l3 &&& 31)))) fun m2862 =>
    fX10_trunksForLines_53 k9 (fX10_trunksForLines_19 k9 fu) l0 l1 l2 l3 m2862
    else none
    else none
    else none
    else none
    else none
def fX10_trunksForLines_9 : Nat → Nat → Nat → Int32 → ml_M → Option (Nat × ml_M)
  | 0, _, _, _, _ => none
  | fu + 1, l0, l1, l2, m =>
    if (ml_K m l0).1 = 10 then
    if (ml_I m l0 7) ≤ l2 then
    some (l1, m)
    else
    fX10_trunksForLines_19 (fX10_trunksForLines_9 fu) ml_fu l0 l1 l2 (0 : Int32) m
    else none
def fX10_trunksForLines (l0 : Nat) (m : ml_M) : Option (Nat × ml_M) :=
    if (ml_K m l0).1 = 10 then
    if ml_len (ml_I m l0 7) then
    ml_let (ml_n m + 1) fun a2867 =>
    ml_let (ml_al m 20 (ml_I m l0 7).toNatClampNeg (ml_I m l0 7).toNatClampNeg) fun m2868 =>
    fX10_trunksForLines_9 ml_fu l0 a2867 (0 : Int32) m2868
    else none
    else none
def fX10_readingsBy_105 (k14 : Nat → Nat → Nat → Int32 → Int32 → ml_M → Option (Int32 × ml_M)) (k55 : Nat → Nat → Nat → Int32 → Int32 → Int32 → Int32 → ml_M → Option (Int32 × ml_M)) (l0 : Nat) (l1 : Nat) (l2 : Nat) (l3 : Int32) (l4 : Int32) (l5 : Int32) (l6 : Int32) (m : ml_M) : Option (Int32 × ml_M) :=
    k55 l0 l1 l2 l3 l4 l5 (l6 + (1 : Int32)) m
def fX10_readingsBy_111 (k14 : Nat → Nat → Nat → Int32 → Int32 → ml_M → Option (Int32 × ml_M)) (l0 : Nat) (l1 : Nat) (l2 : Nat) (l3 : Int32) (l4 : Int32) (m : ml_M) : Option (Int32 × ml_M) :=
    k14 l0 l1 l2 l3 (l4 + (1 : Int32)) m
def fX10_readingsBy_55 (k14 : Nat → Nat → Nat → Int32 → Int32 → ml_M → Option (Int32 × ml_M)) : Nat → Nat → Nat → Nat → Int32 → Int32 → Int32 → Int32 → ml_M → Option (Int32 × ml_M)
  | 0, _, _, _, _, _, _, _, _ => none
  | fu + 1, l0, l1, l2, l3, l4, l5, l6, m =>
    if (ml_K m l0).1 = 10 then
    ml_let (ml_R m l0 2) fun a2872 =>
    if (ml_K m a2872).1 = 1 then
    if (ml_I m a2872 3) ≤ l6 then
    fX10_readingsBy_111 k14 l0 l1 l2 l3 l4 m
    else
    if ml_in m l1 20 l5 then
    ml_b1 (fX10_has (ml_I m l1 l5.toNatClampNeg) l6 m) fun r2876 =>
    if r2876 = 0 then
    fX10_readingsBy_105 k14 (fX10_readingsBy_55 k14 fu) l0 l1 l2 l3 l4 l5 l6 m
    else
    ml_b1 (fX10_has l4 l6 m) fun r2878 =>
    if r2878 = 0 then
    if ml_in m l2 20 (l4 ||| ((1 : Int32) <<< (l6 &&& 31))) then
    if ml_in m l2 20 l4 then
    if ml_in m l2 20 (l4 ||| ((1 : Int32) <<< (l6 &&& 31))) then
    ml_let (ml_sI m l2 (l4 ||| ((1 : Int32) <<< (l6 &&& 31))).toNatClampNeg ((ml_I m l2 (l4 ||| ((1 : Int32) <<< (l6 &&& 31))).toNatClampNeg) + (ml_I m l2 l4.toNatClampNeg))) fun m2882 =>
    fX10_readingsBy_105 k14 (fX10_readingsBy_55 k14 fu) l0 l1 l2 l3 l4 l5 l6 m2882
    else none
    else none
    else none
    else
    fX10_readingsBy_105 k14 (fX10_readingsBy_55 k14 fu) l0 l1 l2 l3 l4 l5 l6 m
    else none
    else none
    else none
def fX10_readingsBy_42 (k14 : Nat → Nat → Nat → Int32 → Int32 → ml_M → Option (Int32 × ml_M)) (l0 : Nat) (l1 : Nat) (l2 : Nat) (l3 : Int32) (l4 : Int32) (l5 : Int32) (m : ml_M) : Option (Int32 × ml_M) :=
    if (ml_K m l1).1 = 20 then
    if l5 < (Int32.ofNat (ml_K m l1).2) then
    fX10_readingsBy_55 k14 ml_fu l0 l1 l2 l3 l4 l5 (0 : Int32) m
    else
    fX10_readingsBy_111 k14 l0 l1 l2 l3 l4 m
    else none
def fX10_readingsBy_14 : Nat → Nat → Nat → Nat → Int32 → Int32 → ml_M → Option (Int32 × ml_M)
  | 0, _, _, _, _, _, _ => none
  | fu + 1, l0, l1, l2, l3, l4, m =>
    if (ml_K m l2).1 = 20 then
    if (Int32.ofNat (ml_K m l2).2) ≤ l4 then
    some (l3, m)
    else
    ml_b1 (fJ6_bitCount_0f7a4 l4 m) fun r2887 =>
    if (ml_K m l1).1 = 20 then
    if r2887 = (Int32.ofNat (ml_K m l1).2) then
    if ml_in m l2 20 l4 then
    ml_let (l3 + (ml_I m l2 l4.toNatClampNeg)) fun x2890 =>
    fX10_readingsBy_42 (fX10_readingsBy_14 fu) l0 l1 l2 x2890 l4 r2887 m
    else none
    else
    fX10_readingsBy_42 (fX10_readingsBy_14 fu) l0 l1 l2 l3 l4 r2887 m
    else none
    else none

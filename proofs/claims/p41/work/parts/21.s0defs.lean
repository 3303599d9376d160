/-! the law's methods on the script and on its row of longs: laid by program out of the bytecode -/
abbrev zML : Type := Nat → Int64
theorem zcb_127 : (Int8.ofInt 127).toInt32 = (127 : Int32) := by decide
def fL_at (sl : Nat) (sf : Nat → Int32)  (l1 : Int32)  : Option (Int32) :=
    zb (if (Int32.ofNat sl) ≤ l1 then
    some ((0 : Int32))
    else
    if zib l1 sl = true then
    some ((sf l1.toNatClampNeg))
    else none) fun x3 =>
    some (x3)
def fL_plain (sl : Nat) (sf : Nat → Int32)    : Option (Int32) :=
    zb (fL_at sl sf (0 : Int32)) fun p1 =>
    zl (if ((p1 >>> ((11 : Int32) &&& 31)) &&& (1 : Int32)) = (0 : Int32) then
    ((1 : Int32))
    else
    ((0 : Int32))) fun x4 =>
    if zbB x4 = true then
    some (x4)
    else none
def fL_many (sl : Nat) (sf : Nat → Int32)    : Option (Int32) :=
    zb (fL_at sl sf (0 : Int32)) fun p1 =>
    some (((1 : Int32) + ((p1 &&& (3 : Int32)) - (p1 &&& (3 : Int32)) / (3 : Int32) * (3 : Int32))))
def fL_want (sl : Nat) (sf : Nat → Int32)    : Option (Int32) :=
    zb (fL_at sl sf (0 : Int32)) fun p1 =>
    some (((1 : Int32) + ((p1 >>> ((2 : Int32) &&& 31)) &&& (15 : Int32))))
def fL_high (sl : Nat) (sf : Nat → Int32)  (l1 : Int32)  : Option (Int32) :=
    zb (fL_at sl sf ((1 : Int32) + (l1 / (3 : Int32)))) fun p1 =>
    zb (fL_at sl sf (0 : Int32)) fun p3 =>
    zl (if ((p3 >>> ((12 : Int32) &&& 31)) &&& (1 : Int32)) = (0 : Int32) then
    ((25 : Int32))
    else
    ((101 : Int32))) fun x6 =>
    if ¬ x6 = (0 : Int32) then
    some ((((p1 >>> (((7 : Int32) * (l1 - l1 / (3 : Int32) * (3 : Int32))) &&& 31)) &&& (127 : Int32)) - ((p1 >>> (((7 : Int32) * (l1 - l1 / (3 : Int32) * (3 : Int32))) &&& 31)) &&& (127 : Int32)) / x6 * x6))
    else none
def fL_stick (sl : Nat) (sf : Nat → Int32)  (l1 : Int32)  : Option (Int32) :=
    zb (fL_at sl sf ((4 : Int32) + (l1 / (5 : Int32)))) fun p1 =>
    some ((((p1 >>> (((4 : Int32) * (l1 - l1 / (5 : Int32) * (5 : Int32))) &&& 31)) &&& (15 : Int32)) - ((p1 >>> (((4 : Int32) * (l1 - l1 / (5 : Int32) * (5 : Int32))) &&& 31)) &&& (15 : Int32)) / (10 : Int32) * (10 : Int32)))
def fL_kind (sl : Nat) (sf : Nat → Int32)  (l1 : Int32)  : Option (Int32) :=
    zb (fL_at sl sf (6 : Int32)) fun p1 =>
    some ((((p1 >>> (((10 : Int32) * l1) &&& 31)) &&& (7 : Int32)) - ((p1 >>> (((10 : Int32) * l1) &&& 31)) &&& (7 : Int32)) / (6 : Int32) * (6 : Int32)))
def fL_more (sl : Nat) (sf : Nat → Int32)  (l1 : Int32)  : Option (Int32) :=
    zb (fL_at sl sf (6 : Int32)) fun p1 =>
    some ((((p1 >>> ((((10 : Int32) * l1) + (3 : Int32)) &&& 31)) &&& (15 : Int32)) - ((p1 >>> ((((10 : Int32) * l1) + (3 : Int32)) &&& 31)) &&& (15 : Int32)) / (10 : Int32) * (10 : Int32)))
def fL_from (sl : Nat) (sf : Nat → Int32)  (l1 : Int32)  : Option (Int32) :=
    zb (fL_at sl sf (7 : Int32)) fun p1 =>
    some ((((p1 >>> (((4 : Int32) * l1) &&& 31)) &&& (15 : Int32)) - ((p1 >>> (((4 : Int32) * l1) &&& 31)) &&& (15 : Int32)) / (9 : Int32) * (9 : Int32)))
def fL_held (sl : Nat) (sf : Nat → Int32)  (l0 : Int64) (l2 : Int32) (l3 : Int32)  : Option (Int32) :=
    zl (if l0 < l3.toInt64 then l0 else l3.toInt64) fun x1 =>
    zl (if x1 < l2.toInt64 then l2.toInt64 else x1) fun x3 =>
    some (x3.toInt32)
def fL_start_L2 (sl : Nat) (sf : Nat → Int32)  (k35 : zML → Option (zML)) : Nat → Int32 → zML → Option (zML)
  | 0, _, _ => none
  | q + 1, l2, I =>
    if (9 : Int32) ≤ l2 then
    k35 I
    else
    zb (fL_high sl sf l2) fun p2 =>
    if zib l2 130 = true then
    zl (zuL I l2.toNatClampNeg p2.toInt64) fun J5 =>
    zb (fL_stick sl sf l2) fun p7 =>
    if zib ((9 : Int32) + l2) 130 = true then
    zl (zuL J5 ((9 : Int32) + l2).toNatClampNeg p7.toInt64) fun J10 =>
    fL_start_L2 sl sf k35 q (l2 + (1 : Int32)) J10
    else none
    else none
def fL_start_L37 (sl : Nat) (sf : Nat → Int32)   : Nat → Int32 → zML → Option (zML)
  | 0, _, _ => none
  | q + 1, l2, I =>
    zb (fL_many sl sf) fun p12 =>
    if p12 ≤ l2 then
    some (I)
    else
    zb (fL_kind sl sf l2) fun p15 =>
    if zib ((20 : Int32) + l2) 130 = true then
    zl (zuL I ((20 : Int32) + l2).toNatClampNeg p15.toInt64) fun J18 =>
    zb (fL_from sl sf l2) fun p20 =>
    if zib ((25 : Int32) + l2) 130 = true then
    zl (zuL J18 ((25 : Int32) + l2).toNatClampNeg p20.toInt64) fun J23 =>
    fL_start_L37 sl sf q (l2 + (1 : Int32)) J23
    else none
    else none
def fL_start_B35 (sl : Nat) (sf : Nat → Int32)    (I : zML) : Option (zML) :=
    fL_start_L37 sl sf zF (0 : Int32) I
def fL_start (sl : Nat) (sf : Nat → Int32)   (I : zML) : Option (zML) :=
    fL_start_L2 sl sf (fL_start_B35 sl sf) zF (0 : Int32) I
def fL_begin_L3 (sl : Nat) (sf : Nat → Int32)  (k19 : zML → Option (zML)) : Nat → Int32 → zML → Option (zML)
  | 0, _, _ => none
  | q + 1, l1, I =>
    if (120 : Int32) ≤ l1 then
    k19 I
    else
    if zib l1 130 = true then
    zl (zuL I l1.toNatClampNeg (0 : Int64)) fun J3 =>
    fL_begin_L3 sl sf k19 q (l1 + (1 : Int32)) J3
    else none
def fL_begin_L21 (sl : Nat) (sf : Nat → Int32)  (k51 : zML → Option (zML)) : Nat → Int32 → zML → Option (zML)
  | 0, _, _ => none
  | q + 1, l1, I =>
    if (5 : Int32) ≤ l1 then
    k51 I
    else
    if zib ((25 : Int32) + l1) 130 = true then
    if zib ((30 : Int32) + l1) 130 = true then
    zl (zuL I ((30 : Int32) + l1).toNatClampNeg (I ((25 : Int32) + l1).toNatClampNeg)) fun J8 =>
    if zib ((35 : Int32) + l1) 130 = true then
    zl (zuL J8 ((35 : Int32) + l1).toNatClampNeg (1 : Int64)) fun J11 =>
    fL_begin_L21 sl sf k51 q (l1 + (1 : Int32)) J11
    else none
    else none
    else none
def fL_begin_L53 (sl : Nat) (sf : Nat → Int32)   : Nat → Int32 → zML → Option (zML)
  | 0, _, _ => none
  | q + 1, l1, I =>
    if (9 : Int32) ≤ l1 then
    if zib (104 : Int32) 130 = true then
    zl (zuL I (104 : Int32).toNatClampNeg (-1 : Int64)) fun J15 =>
    some (J15)
    else none
    else
    if zib l1 130 = true then
    if zib ((70 : Int32) + l1) 130 = true then
    zl (zuL I ((70 : Int32) + l1).toNatClampNeg (I l1.toNatClampNeg)) fun J19 =>
    if zib ((90 : Int32) + l1) 130 = true then
    zl (zuL J19 ((90 : Int32) + l1).toNatClampNeg (-1 : Int64)) fun J22 =>
    fL_begin_L53 sl sf q (l1 + (1 : Int32)) J22
    else none
    else none
    else none
def fL_begin_B51 (sl : Nat) (sf : Nat → Int32)    (I : zML) : Option (zML) :=
    fL_begin_L53 sl sf zF (0 : Int32) I
def fL_begin_B19 (sl : Nat) (sf : Nat → Int32)    (I : zML) : Option (zML) :=
    fL_begin_L21 sl sf (fL_begin_B51 sl sf) zF (0 : Int32) I
def fL_begin (sl : Nat) (sf : Nat → Int32)   (I : zML) : Option (zML) :=
    fL_begin_L3 sl sf (fL_begin_B19 sl sf) zF (30 : Int32) I
def fL_takes_B108 (I : zML) (sl : Nat) (sf : Nat → Int32)   (l5 : Int64) (l7 : Int32) (l8 : Int32) (l9 : Int32)  : Option (Int32) :=
    if l8 = (5 : Int32) then
    if (lg_cmp l5 l9.toInt64) < (0 : Int32) then
    zl (if (1 : Int32) < l7 then l7 else (1 : Int32)) fun x5 =>
    some (x5)
    else
    zl (if (1 : Int32) < (l7 / (2 : Int32)) then (l7 / (2 : Int32)) else (1 : Int32)) fun x7 =>
    some (x7)
    else
    zl (if (1 : Int32) < l7 then l7 else (1 : Int32)) fun x2 =>
    some (x2)
def fL_takes_B83 (I : zML) (sl : Nat) (sf : Nat → Int32)   (l5 : Int64) (l7 : Int32) (l8 : Int32) (l9 : Int32)  : Option (Int32) :=
    if l8 = (4 : Int32) then
    zl (if (lg_cmp l5 l9.toInt64) ≤ (0 : Int32) then
    ((1 : Int32))
    else
    ((2 : Int32))) fun x11 =>
    fL_takes_B108 I sl sf l5 (l7 + x11) l8 l9
    else
    fL_takes_B108 I sl sf l5 l7 l8 l9
def fL_takes_B74 (I : zML) (sl : Nat) (sf : Nat → Int32)   (l5 : Int64) (l7 : Int32) (l8 : Int32) (l9 : Int32)  : Option (Int32) :=
    if l8 = (3 : Int32) then
    fL_takes_B83 I sl sf l5 (l7 + (1 : Int32)) l8 l9
    else
    fL_takes_B83 I sl sf l5 l7 l8 l9
def fL_takes_B65 (I : zML) (sl : Nat) (sf : Nat → Int32)   (l5 : Int64) (l7 : Int32) (l8 : Int32) (l9 : Int32)  : Option (Int32) :=
    zl (l7 + (l9 / (2 : Int32))) fun x15 =>
    fL_takes_B74 I sl sf l5 x15 l8 l9
def fL_takes_B35 (I : zML) (sl : Nat) (sf : Nat → Int32)   (l2 : Int32) (l5 : Int64) (s0 : Int32)  : Option (Int32) :=
    if zib ((20 : Int32) + l2) 130 = true then
    zl ((I ((20 : Int32) + l2).toNatClampNeg).toInt32) fun x18 =>
    zb (fL_more sl sf l2) fun p20 =>
    if x18 = (2 : Int32) then
    fL_takes_B65 I sl sf l5 s0 x18 p20
    else
    if x18 = (4 : Int32) then
    fL_takes_B65 I sl sf l5 s0 x18 p20
    else
    fL_takes_B74 I sl sf l5 s0 x18 p20
    else none
def fL_takes (I : zML) (sl : Nat) (sf : Nat → Int32)  (l2 : Int32) (l3 : Int64) (l5 : Int64)  : Option (Int32) :=
    zb (fL_plain sl sf) fun p24 =>
    if p24 = (0 : Int32) then
    zb (fL_at sl sf (0 : Int32)) fun p27 =>
    zb (fL_held sl sf (((1 : Int64) + (l3 * (((p27 >>> ((6 : Int32) &&& 31)) &&& (1 : Int32)).toInt64))) + l5) (1 : Int32) (20 : Int32)) fun p29 =>
    fL_takes_B35 I sl sf l2 l5 p29
    else
    fL_takes_B35 I sl sf l2 l5 (2 : Int32)
def fL_steps_B61 (I : zML) (sl : Nat) (sf : Nat → Int32)   (l2 : Int32) (l5 : Int32) (s0 : Int32)  : Option (Int32) :=
    zb (fL_more sl sf l2) fun p1 =>
    zl (if s0 < (l5 - (p1 / (3 : Int32))) then (l5 - (p1 / (3 : Int32))) else s0) fun x3 =>
    some (x3)
def fL_steps_B37 (I : zML) (sl : Nat) (sf : Nat → Int32)   (l2 : Int32) (s0 : Int32)  : Option (Int32) :=
    if zib ((20 : Int32) + l2) 130 = true then
    zl ((I ((20 : Int32) + l2).toNatClampNeg).toInt32) fun x6 =>
    if x6 = (1 : Int32) then
    fL_steps_B61 I sl sf l2 s0 (1 : Int32)
    else
    if x6 = (3 : Int32) then
    fL_steps_B61 I sl sf l2 s0 (1 : Int32)
    else
    if x6 = (4 : Int32) then
    zl (if (1 : Int32) < ((2 : Int32) * s0) then ((2 : Int32) * s0) else (1 : Int32)) fun x13 =>
    some (x13)
    else
    zl (if (1 : Int32) < s0 then s0 else (1 : Int32)) fun x11 =>
    some (x11)
    else none
def fL_steps (I : zML) (sl : Nat) (sf : Nat → Int32)  (l2 : Int32) (l3 : Int64)  : Option (Int32) :=
    zb (fL_plain sl sf) fun p15 =>
    if p15 = (0 : Int32) then
    zb (fL_many sl sf) fun p18 =>
    zb (fL_at sl sf (0 : Int32)) fun p20 =>
    zb (fL_held sl sf (((p18 + (l2 * ((p20 >>> ((7 : Int32) &&& 31)) &&& (3 : Int32)))).toInt64) - l3) (1 : Int32) (20 : Int32)) fun p22 =>
    fL_steps_B37 I sl sf l2 p22
    else
    fL_steps_B37 I sl sf l2 (1 : Int32)
def fL_lift_B274 (sl : Nat) (sf : Nat → Int32)   (l2 : Int32) (I : zML) : Option (zML) :=
    if zib ((50 : Int32) + l2) 130 = true then
    zl (zuL I ((50 : Int32) + l2).toNatClampNeg ((I ((50 : Int32) + l2).toNatClampNeg) + (1 : Int64))) fun J2 =>
    if zib ((45 : Int32) + l2) 130 = true then
    zl (zuL J2 ((45 : Int32) + l2).toNatClampNeg (0 : Int64)) fun J5 =>
    if zib ((60 : Int32) + l2) 130 = true then
    zl (zuL J5 ((60 : Int32) + l2).toNatClampNeg (0 : Int64)) fun J8 =>
    some (J8)
    else none
    else none
    else none
def fL_lift_B247 (sl : Nat) (sf : Nat → Int32)   (l2 : Int32) (l3 : Int32) (I : zML) : Option (zML) :=
    if zib (101 : Int32) 130 = true then
    zl (zuL I (101 : Int32).toNatClampNeg ((I (101 : Int32).toNatClampNeg) + (1 : Int64))) fun J11 =>
    zb (fL_want sl sf) fun p13 =>
    if (lg_cmp (J11 (101 : Int32).toNatClampNeg) p13.toInt64) = (0 : Int32) then
    if zib (104 : Int32) 130 = true then
    zl (zuL J11 (104 : Int32).toNatClampNeg l3.toInt64) fun J17 =>
    fL_lift_B274 sl sf l2 J17
    else none
    else
    fL_lift_B274 sl sf l2 J11
    else none
def fL_lift_B180 (sl : Nat) (sf : Nat → Int32)   (l2 : Int32) (l3 : Int32) (I : zML) : Option (zML) :=
    if zib ((45 : Int32) + l2) 130 = true then
    if (0 : Int32) ≤ (lg_cmp (I ((45 : Int32) + l2).toNatClampNeg) (9 : Int64)) then
    if zib ((60 : Int32) + l2) 130 = true then
    if (lg_cmp (I ((60 : Int32) + l2).toNatClampNeg) (0 : Int64)) ≤ (0 : Int32) then
    fL_lift_B247 sl sf l2 l3 I
    else
    if zib (101 : Int32) 130 = true then
    if zib ((110 : Int32) + (((I (101 : Int32).toNatClampNeg).toInt32) / (60 : Int32))) 130 = true then
    zl (zuL I ((110 : Int32) + (((I (101 : Int32).toNatClampNeg).toInt32) / (60 : Int32))).toNatClampNeg ((I ((110 : Int32) + (((I (101 : Int32).toNatClampNeg).toInt32) / (60 : Int32))).toNatClampNeg) ||| ((1 : Int64) <<< ((((I (101 : Int32).toNatClampNeg).toInt32) - ((I (101 : Int32).toNatClampNeg).toInt32) / (60 : Int32) * (60 : Int32)).toInt64 &&& 63)))) fun J25 =>
    if zib ((101 : Int32) + ((J25 ((60 : Int32) + l2).toNatClampNeg).toInt32)) 130 = true then
    zl (zuL J25 ((101 : Int32) + ((J25 ((60 : Int32) + l2).toNatClampNeg).toInt32)).toNatClampNeg ((J25 ((101 : Int32) + ((J25 ((60 : Int32) + l2).toNatClampNeg).toInt32)).toNatClampNeg) + (1 : Int64))) fun J28 =>
    fL_lift_B247 sl sf l2 l3 J28
    else none
    else none
    else none
    else none
    else
    some (I)
    else none
def fL_lift_B159 (sl : Nat) (sf : Nat → Int32)   (l2 : Int32) (l3 : Int32) (l4 : Int32) (I : zML) : Option (zML) :=
    if zib ((70 : Int32) + l4) 130 = true then
    if (lg_cmp (I ((70 : Int32) + l4).toNatClampNeg) (0 : Int64)) = (0 : Int32) then
    if zib ((90 : Int32) + l4) 130 = true then
    zl (zuL I ((90 : Int32) + l4).toNatClampNeg l3.toInt64) fun J33 =>
    fL_lift_B180 sl sf l2 l3 J33
    else none
    else
    fL_lift_B180 sl sf l2 l3 I
    else none
def fL_lift_B136 (sl : Nat) (sf : Nat → Int32)   (l2 : Int32) (l3 : Int32) (l4 : Int32) (l5 : Int32) (s1 : Int32) (s2 : Int64) (s3 : Int64) (I : zML) : Option (zML) :=
    if zib s1 130 = true then
    zl (zuL I s1.toNatClampNeg (s2 - s3)) fun J36 =>
    if l5 = (0 : Int32) then
    fL_lift_B159 sl sf l2 l3 l4 J36
    else
    if zib ((60 : Int32) + l2) 130 = true then
    zl (if (1 : Int64) < (J36 ((60 : Int32) + l2).toNatClampNeg) then (J36 ((60 : Int32) + l2).toNatClampNeg) else (1 : Int64)) fun x40 =>
    zl (zuL J36 ((60 : Int32) + l2).toNatClampNeg x40) fun J42 =>
    fL_lift_B159 sl sf l2 l3 l4 J42
    else none
    else none
def fL_lift_B114 (sl : Nat) (sf : Nat → Int32)   (l2 : Int32) (l3 : Int32) (l4 : Int32) (s0 : Int32) (I : zML) : Option (zML) :=
    if zib ((70 : Int32) + l4) 130 = true then
    if s0 = (0 : Int32) then
    fL_lift_B136 sl sf l2 l3 l4 s0 ((70 : Int32) + l4) (I ((70 : Int32) + l4).toNatClampNeg) (1 : Int64) I
    else
    fL_lift_B136 sl sf l2 l3 l4 s0 ((70 : Int32) + l4) (I ((70 : Int32) + l4).toNatClampNeg) (2 : Int64) I
    else none
def fL_lift_B113 (sl : Nat) (sf : Nat → Int32)   (l2 : Int32) (l3 : Int32) (l4 : Int32) (I : zML) : Option (zML) :=
    fL_lift_B114 sl sf l2 l3 l4 (0 : Int32) I
def fL_lift (sl : Nat) (sf : Nat → Int32)  (l2 : Int32) (l3 : Int32) (I : zML) : Option (zML) :=
    if zib ((30 : Int32) + l2) 130 = true then
    zl ((I ((30 : Int32) + l2).toNatClampNeg).toInt32) fun x47 =>
    if zib ((45 : Int32) + l2) 130 = true then
    zl (zuL I ((45 : Int32) + l2).toNatClampNeg ((I ((45 : Int32) + l2).toNatClampNeg) + (1 : Int64))) fun J50 =>
    if zib ((70 : Int32) + x47) 130 = true then
    if (lg_cmp (J50 ((70 : Int32) + x47).toNatClampNeg) (0 : Int64)) = (0 : Int32) then
    if zib (100 : Int32) 130 = true then
    zl (zuL J50 (100 : Int32).toNatClampNeg ((J50 (100 : Int32).toNatClampNeg) ||| ((1 : Int64) <<< (x47.toInt64 &&& 63)))) fun J63 =>
    if zib ((60 : Int32) + l2) 130 = true then
    zl (zuL J63 ((60 : Int32) + l2).toNatClampNeg (2 : Int64)) fun J66 =>
    fL_lift_B180 sl sf l2 l3 J66
    else none
    else none
    else
    if zib ((80 : Int32) + x47) 130 = true then
    zl (zuL J50 ((80 : Int32) + x47).toNatClampNeg ((J50 ((80 : Int32) + x47).toNatClampNeg) + (1 : Int64))) fun J55 =>
    if zib ((9 : Int32) + x47) 130 = true then
    if (lg_cmp (J55 ((9 : Int32) + x47).toNatClampNeg) (0 : Int64)) ≤ (0 : Int32) then
    fL_lift_B113 sl sf l2 l3 x47 J55
    else
    if ¬ (J55 ((9 : Int32) + x47).toNatClampNeg) = (0 : Int64) then
    if (lg_cmp ((J55 ((80 : Int32) + x47).toNatClampNeg) - (J55 ((80 : Int32) + x47).toNatClampNeg) / (J55 ((9 : Int32) + x47).toNatClampNeg) * (J55 ((9 : Int32) + x47).toNatClampNeg)) (0 : Int64)) = (0 : Int32) then
    if (lg_cmp (J55 ((70 : Int32) + x47).toNatClampNeg) (1 : Int64)) ≤ (0 : Int32) then
    fL_lift_B113 sl sf l2 l3 x47 J55
    else
    fL_lift_B114 sl sf l2 l3 x47 (1 : Int32) J55
    else
    fL_lift_B113 sl sf l2 l3 x47 J55
    else none
    else none
    else none
    else none
    else none
    else none
def fL_second_B324 (sl : Nat) (sf : Nat → Int32)  (k3 : Int32 → Int32 → Int32 → Int32 → zML → Option (zML)) (l2 : Int32) (l3 : Int32) (l4 : Int32) (l5 : Int32) (I : zML) : Option (zML) :=
    k3 l2 l3 l4 (l5 + (1 : Int32)) I
def fL_second_B243 (sl : Nat) (sf : Nat → Int32)  (k180 : Int32 → Int32 → Int32 → Int32 → Int32 → Int32 → Int32 → zML → Option (zML)) (l2 : Int32) (l3 : Int32) (l4 : Int32) (l5 : Int32) (l6 : Int32) (l8 : Int32) (s0 : Int32) (s1 : Int32) (I : zML) : Option (zML) :=
    k180 l2 l3 l4 l5 l6 (s0 ||| s1) (l8 + (1 : Int32)) I
def fL_second_B242 (sl : Nat) (sf : Nat → Int32)  (k180 : Int32 → Int32 → Int32 → Int32 → Int32 → Int32 → Int32 → zML → Option (zML)) (l2 : Int32) (l3 : Int32) (l4 : Int32) (l5 : Int32) (l6 : Int32) (l8 : Int32) (s0 : Int32) (I : zML) : Option (zML) :=
    fL_second_B243 sl sf k180 l2 l3 l4 l5 l6 l8 s0 (0 : Int32) I
def fL_second_L180 (sl : Nat) (sf : Nat → Int32)  (k252 : Int32 → Int32 → Int32 → Int32 → Int32 → Int32 → zML → Option (zML)) : Nat → Int32 → Int32 → Int32 → Int32 → Int32 → Int32 → Int32 → zML → Option (zML)
  | 0, _, _, _, _, _, _, _, _ => none
  | q + 1, l2, l3, l4, l5, l6, l7, l8, I =>
    if l3 ≤ l8 then
    k252 l2 l3 l4 l5 l6 l7 I
    else
    zl ((l2 >>> (((3 : Int32) * l8) &&& 31)) &&& (7 : Int32)) fun x2 =>
    if x2 = l6 then
    fL_second_B242 sl sf (fL_second_L180 sl sf k252 q) l2 l3 l4 l5 l6 l8 l7 I
    else
    if zib ((35 : Int32) + x2) 130 = true then
    if (lg_cmp (I ((35 : Int32) + x2).toNatClampNeg) (2 : Int64)) = (0 : Int32) then
    if zib ((30 : Int32) + x2) 130 = true then
    if zib ((30 : Int32) + l6) 130 = true then
    if (lg_cmp (I ((30 : Int32) + x2).toNatClampNeg) (I ((30 : Int32) + l6).toNatClampNeg)) = (0 : Int32) then
    fL_second_B243 sl sf (fL_second_L180 sl sf k252 q) l2 l3 l4 l5 l6 l8 l7 (1 : Int32) I
    else
    fL_second_B242 sl sf (fL_second_L180 sl sf k252 q) l2 l3 l4 l5 l6 l8 l7 I
    else none
    else none
    else
    fL_second_B242 sl sf (fL_second_L180 sl sf k252 q) l2 l3 l4 l5 l6 l8 l7 I
    else none
def fL_second_B285 (sl : Nat) (sf : Nat → Int32)  (k3 : Int32 → Int32 → Int32 → Int32 → zML → Option (zML)) (l2 : Int32) (l3 : Int32) (l4 : Int32) (l5 : Int32) (l6 : Int32) (I : zML) : Option (zML) :=
    if zib ((35 : Int32) + l6) 130 = true then
    zl (zuL I ((35 : Int32) + l6).toNatClampNeg (2 : Int64)) fun J11 =>
    if zib ((30 : Int32) + l6) 130 = true then
    if zib ((50 : Int32) + l6) 130 = true then
    zb (fL_takes J11 sl sf l6 (J11 ((30 : Int32) + l6).toNatClampNeg) (J11 ((50 : Int32) + l6).toNatClampNeg)) fun p15 =>
    if zib ((40 : Int32) + l6) 130 = true then
    zl (zuL J11 ((40 : Int32) + l6).toNatClampNeg p15.toInt64) fun J18 =>
    fL_second_B324 sl sf k3 l2 l3 l4 l5 J18
    else none
    else none
    else none
    else none
def fL_second_B252 (sl : Nat) (sf : Nat → Int32)  (k3 : Int32 → Int32 → Int32 → Int32 → zML → Option (zML)) (l2 : Int32) (l3 : Int32) (l4 : Int32) (l5 : Int32) (l6 : Int32) (l7 : Int32) (I : zML) : Option (zML) :=
    if l7 = (0 : Int32) then
    fL_second_B285 sl sf k3 l2 l3 l4 l5 l6 I
    else
    if zib ((20 : Int32) + l6) 130 = true then
    if (lg_cmp (I ((20 : Int32) + l6).toNatClampNeg) (3 : Int64)) = (0 : Int32) then
    fL_second_B285 sl sf k3 l2 l3 l4 l5 l6 I
    else
    if zib ((55 : Int32) + l6) 130 = true then
    zl (zuL I ((55 : Int32) + l6).toNatClampNeg ((I ((55 : Int32) + l6).toNatClampNeg) + (1 : Int64))) fun J24 =>
    fL_second_B324 sl sf k3 l2 l3 l4 l5 J24
    else none
    else none
def fL_second_B174 (sl : Nat) (sf : Nat → Int32)  (k3 : Int32 → Int32 → Int32 → Int32 → zML → Option (zML)) (l2 : Int32) (l3 : Int32) (l4 : Int32) (l5 : Int32) (l6 : Int32) (I : zML) : Option (zML) :=
    fL_second_L180 sl sf (fL_second_B252 sl sf k3) zF l2 l3 l4 l5 l6 (0 : Int32) (0 : Int32) I
def fL_second_L3 (sl : Nat) (sf : Nat → Int32)   : Nat → Int32 → Int32 → Int32 → Int32 → zML → Option (zML)
  | 0, _, _, _, _, _ => none
  | q + 1, l2, l3, l4, l5, I =>
    if l3 ≤ l5 then
    some (I)
    else
    zl ((l2 >>> (((3 : Int32) * l5) &&& 31)) &&& (7 : Int32)) fun x27 =>
    if zib ((35 : Int32) + x27) 130 = true then
    if (lg_cmp (I ((35 : Int32) + x27).toNatClampNeg) (2 : Int64)) = (0 : Int32) then
    if zib ((40 : Int32) + x27) 130 = true then
    zl (zuL I ((40 : Int32) + x27).toNatClampNeg ((I ((40 : Int32) + x27).toNatClampNeg) - (1 : Int64))) fun J39 =>
    if (lg_cmp (J39 ((40 : Int32) + x27).toNatClampNeg) (0 : Int64)) ≤ (0 : Int32) then
    zb (fL_lift sl sf x27 l4 J39) fun p42 =>
    if zib ((30 : Int32) + x27) 130 = true then
    if zib ((70 : Int32) + ((p42 ((30 : Int32) + x27).toNatClampNeg).toInt32)) 130 = true then
    zb (fL_steps p42 sl sf x27 (p42 ((70 : Int32) + ((p42 ((30 : Int32) + x27).toNatClampNeg).toInt32)).toNatClampNeg)) fun p46 =>
    zl (zuL p42 ((40 : Int32) + x27).toNatClampNeg p46.toInt64) fun J48 =>
    zl (zuL J48 ((30 : Int32) + x27).toNatClampNeg (((J48 ((30 : Int32) + x27).toNatClampNeg) + (1 : Int64)) - ((J48 ((30 : Int32) + x27).toNatClampNeg) + (1 : Int64)) / (9 : Int64) * (9 : Int64))) fun J50 =>
    zl (zuL J50 ((35 : Int32) + x27).toNatClampNeg (0 : Int64)) fun J52 =>
    fL_second_B324 sl sf (fL_second_L3 sl sf q) l2 l3 l4 l5 J52
    else none
    else none
    else
    fL_second_B324 sl sf (fL_second_L3 sl sf q) l2 l3 l4 l5 J39
    else none
    else
    if (lg_cmp (I ((35 : Int32) + x27).toNatClampNeg) (0 : Int64)) = (0 : Int32) then
    if zib ((40 : Int32) + x27) 130 = true then
    zl (zuL I ((40 : Int32) + x27).toNatClampNeg ((I ((40 : Int32) + x27).toNatClampNeg) - (1 : Int64))) fun J33 =>
    if (lg_cmp (J33 ((40 : Int32) + x27).toNatClampNeg) (0 : Int64)) ≤ (0 : Int32) then
    zl (zuL J33 ((35 : Int32) + x27).toNatClampNeg (1 : Int64)) fun J36 =>
    fL_second_B174 sl sf (fL_second_L3 sl sf q) l2 l3 l4 l5 x27 J36
    else
    fL_second_B324 sl sf (fL_second_L3 sl sf q) l2 l3 l4 l5 J33
    else none
    else
    fL_second_B174 sl sf (fL_second_L3 sl sf q) l2 l3 l4 l5 x27 I
    else none
def fL_second (sl : Nat) (sf : Nat → Int32)  (l2 : Int32) (l3 : Int32) (l4 : Int32) (I : zML) : Option (zML) :=
    fL_second_L3 sl sf zF l2 l3 l4 (0 : Int32) I
def fL_go_L7 (sl : Nat) (sf : Nat → Int32)   : Nat → Int32 → Int32 → Int32 → Int32 → zML → Option (Int32 × zML)
  | 0, _, _, _, _, _ => none
  | q + 1, l2, l3, l4, l5, I =>
    if l4 ≤ l5 then
    if zib (101 : Int32) 130 = true then
    some ((I (101 : Int32).toNatClampNeg).toInt32, I)
    else none
    else
    zb (fL_second sl sf l2 l3 l5 I) fun p3 =>
    fL_go_L7 sl sf q l2 l3 l4 (l5 + (1 : Int32)) p3
def fL_go (sl : Nat) (sf : Nat → Int32)  (l2 : Int32) (l3 : Int32) (l4 : Int32) (I : zML) : Option (Int32 × zML) :=
    zb (fL_begin sl sf I) fun p5 =>
    fL_go_L7 sl sf zF l2 l3 l4 (0 : Int32) p5
def fL_plainly_B42 (sl : Nat) (sf : Nat → Int32)  (k9 : Int32 → Int32 → Int32 → Int32 → Int32 → zML → Option (Int32 × zML)) (l2 : Int32) (l3 : Int32) (l4 : Int32) (l5 : Int32) (l6 : Int32) (I : zML) : Option (Int32 × zML) :=
    k9 l2 l3 l4 l5 (l6 + (1 : Int32)) I
def fL_plainly_L9 (sl : Nat) (sf : Nat → Int32)  (k48 : Int32 → Int32 → Int32 → zML → Option (Int32 × zML)) : Nat → Int32 → Int32 → Int32 → Int32 → Int32 → zML → Option (Int32 × zML)
  | 0, _, _, _, _, _, _ => none
  | q + 1, l2, l3, l4, l5, l6, I =>
    zb (fL_many sl sf) fun p1 =>
    if p1 ≤ l6 then
    k48 l3 l4 l5 I
    else
    if l6 = l2 then
    fL_plainly_B42 sl sf (fL_plainly_L9 sl sf k48 q) l2 l3 l4 l5 l6 I
    else
    zl (l4 ||| (l6 <<< (((3 : Int32) * l5) &&& 31))) fun x5 =>
    fL_plainly_B42 sl sf (fL_plainly_L9 sl sf k48 q) l2 l3 x5 (l5 + (1 : Int32)) l6 I
def fL_plainly_B48 (sl : Nat) (sf : Nat → Int32)   (l3 : Int32) (l4 : Int32) (l5 : Int32) (I : zML) : Option (Int32 × zML) :=
    zb (fL_go sl sf l4 l5 l3 I) fun p7 =>
    some (p7.1, p7.2)
def fL_plainly (sl : Nat) (sf : Nat → Int32)  (l2 : Int32) (l3 : Int32) (I : zML) : Option (Int32 × zML) :=
    fL_plainly_L9 sl sf (fL_plainly_B48 sl sf) zF l2 l3 (0 : Int32) (0 : Int32) (0 : Int32) I

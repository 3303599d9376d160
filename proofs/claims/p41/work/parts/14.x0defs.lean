/-! the class's methods as functions: laid by program out of the bytecode -/
def fJ1_charAt_3b067 (l0 : Nat) (l1 : Int32) : Option (Int32) :=
  if decide (l0 < 12) = true then
  if zib l1 (zSlen.getD l0 0) = true then
  some ((((zSbyt.getD l0 []).getD l1.toNatClampNeg 0 &&& 255).toUInt32 % 65536).toInt32)
  else none
  else none

def f2_beginGoing   (l0 : Nat) (l1 : Int32) (l2 : Int32) (I : zMI) : Option (zMI) :=
    if zHpB l0 = true then
    zl (uI I l0 1 l1) fun J2 =>
    zl (uI J2 l0 2 l2) fun J4 =>
    zl (uI J4 l0 3 (0 : Int32)) fun J6 =>
    zl (uI J6 l0 4 (0 : Int32)) fun J8 =>
    zl (uI J8 l0 5 (-1 : Int32)) fun J10 =>
    zl (uI J10 l0 6 (0 : Int32)) fun J12 =>
    some (J12)
    else none
def f2_lift_B87    (l2 : Int32) (I : zMI) : Option (Int32 × zMI) :=
    zl (if l2 = (0 : Int32) then
    ((0 : Int32))
    else
    ((1 : Int32))) fun x2 =>
    some (x2, I)
def f2_lift   (l0 : Nat) (l1 : Int32) (I : zMI) : Option (Int32 × zMI) :=
    if zHpB l0 = true then
    if (0 : Int32) < (I l0 1) then
    zl (uI I l0 3 ((I l0 3) + (1 : Int32))) fun J7 =>
    zb (if (J7 l0 2) = (0 : Int32) then
    some ((0 : Int32))
    else
    if ¬ (J7 l0 2) = (0 : Int32) then
    if ((J7 l0 3) - (J7 l0 3) / (J7 l0 2) * (J7 l0 2)) = (0 : Int32) then
    if (J7 l0 1) < (2 : Int32) then
    some ((0 : Int32))
    else
    some ((1 : Int32))
    else
    some ((0 : Int32))
    else none) fun x13 =>
    zl (if x13 = (0 : Int32) then
    ((1 : Int32))
    else
    ((2 : Int32))) fun x16 =>
    zl (uI J7 l0 1 ((J7 l0 1) - x16)) fun J18 =>
    if (J18 l0 1) = (0 : Int32) then
    zl (uI J18 l0 5 l1) fun J21 =>
    f2_lift_B87 x13 J21
    else
    f2_lift_B87 x13 J18
    else
    zl (uI I l0 6 (1 : Int32)) fun J25 =>
    some ((2 : Int32), J25)
    else none
def fJ7_fill_53178_L5 (n : Nat) (kd : zMK)   : Nat → Nat → Int32 → Int32 → Int32 → zMI → Option (zMI)
  | 0, _, _, _, _, _ => none
  | q + 1, l0, l1, l2, l3, I =>
    if l3 ≤ l2 then
    some (I)
    else
    if zKdB n kd l0 0 = true then
    if zib l2 ((kd l0).2) = true then
    zl (uI I l0 l2.toNatClampNeg l1) fun J4 =>
    fJ7_fill_53178_L5 n kd q l0 l1 (l2 + (1 : Int32)) l3 J4
    else none
    else none
def fJ7_fill_53178 (n : Nat) (kd : zMK)  (l0 : Nat) (l1 : Int32) (I : zMI) : Option (zMI) :=
    if zKdB n kd l0 0 = true then
    zl (Int32.ofNat ((kd l0).2)) fun x7 =>
    fJ7_fill_53178_L5 n kd zF l0 l1 (0 : Int32) x7 I
    else none
def f6_become (n : Nat) (kd : zMK)  (l0 : Nat) (l1 : Int32) (l2 : Int32) (I : zMI) : Option (zMI) :=
    if zSeB l0 = true then
    zl (uI I l0 0 l1) fun J2 =>
    zl (if (40 : Int32) < l2 then (40 : Int32) else l2) fun x4 =>
    zl (if (0 : Int32) < x4 then x4 else (0 : Int32)) fun x6 =>
    zl (uI J2 l0 1 x6) fun J8 =>
    zb (fJ7_fill_53178 n kd (l0 + 1) (0 : Int32) J8) fun p10 =>
    some (p10)
    else none
def f6_missing (I : zMI)  (l0 : Nat)  : Option (Int32) :=
    if zSeB l0 = true then
    zl (if (I l0 0) = (-1 : Int32) then
    ((1 : Int32))
    else
    ((0 : Int32))) fun x3 =>
    if zbB x3 = true then
    some (x3)
    else none
    else none
def f6_holds (I : zMI)  (l0 : Nat) (l1 : Int32) (l2 : Int32)  : Option (Int32) :=
    zb (if l1 < (0 : Int32) then
    some ((0 : Int32))
    else
    if l2 < (0 : Int32) then
    some ((0 : Int32))
    else
    if zSeB l0 = true then
    if ((I l0 1) - l2) < l1 then
    some ((0 : Int32))
    else
    some ((1 : Int32))
    else none) fun x5 =>
    if zbB x5 = true then
    some (x5)
    else none
def f6_put   (l0 : Nat) (l1 : Int32) (l2 : Int32) (I : zMI) : Option (zMI) :=
    if zSeB l0 = true then
    zb (f6_holds I l0 l1 (1 : Int32)) fun p2 =>
    if p2 = (0 : Int32) then
    some (I)
    else
    zl (if (I l0 0) = (0 : Int32) then
    (l2.toInt8.toInt32)
    else
    if (I l0 0) = (1 : Int32) then
    (l2.toInt16.toInt32)
    else
    (l2)) fun x7 =>
    if zib l1 40 = true then
    zl (uI I (l0 + 1) l1.toNatClampNeg x7) fun J10 =>
    some (J10)
    else none
    else none
def fJ9_floorDiv_7cf53   (l0 : Int32) (l1 : Int32)  : Option (Int32) :=
    if ¬ l1 = (0 : Int32) then
    if (0 : Int32) ≤ (l0 ^^^ l1) then
    some ((l0 / l1))
    else
    if ((l0 / l1) * l1) = l0 then
    some ((l0 / l1))
    else
    some (((l0 / l1) - (1 : Int32)))
    else none
def fJ9_floorMod_7cf53   (l0 : Int32) (l1 : Int32)  : Option (Int32) :=
    if ¬ l1 = (0 : Int32) then
    if (0 : Int32) ≤ (l0 ^^^ l1) then
    some ((l0 - l0 / l1 * l1))
    else
    if (l0 - l0 / l1 * l1) = (0 : Int32) then
    some ((l0 - l0 / l1 * l1))
    else
    some (((l0 - l0 / l1 * l1) + l1))
    else none
def fJ0_coder_7d493   (l0 : Nat)  : Option (Int32) :=
    zb (if decide (l0 < 12) = true then
    some ((0 : Int32))
    else none) fun x3 =>
    if zbyB x3 = true then
    some (x3)
    else none
def fJ0_length_8abf5   (l0 : Nat)  : Option (Int32) :=
    if decide (l0 < 12) = true then
    zb (fJ0_coder_7d493 l0) fun p2 =>
    some (((Int32.ofNat (zSlen.getD l0 0)) >>> (p2 &&& 31)))
    else none
def fJ0_isLatin1_aae02   (l0 : Nat)  : Option (Int32) :=
    zb (if decide (l0 < 12) = true then
    some ((1 : Int32))
    else none) fun x4 =>
    if zbB x4 = true then
    some (x4)
    else none
def fJ0_charAt_5068e   (l0 : Nat) (l1 : Int32)  : Option (Int32) :=
    if decide (l0 < 12) = true then
    zb (fJ0_isLatin1_aae02 l0) fun p2 =>
    if p2 = (0 : Int32) then
    none
    else
    zb (fJ1_charAt_3b067 l0 l1) fun p5 =>
    if zchB p5 = true then
    some (p5)
    else none
    else none
def f1_kind   (l0 : Nat)  : Option (Int32) :=
    some ((4 : Int32))
def f10_isOf   (l0 : Nat) (l1 : Int32)  : Option (Int32) :=
    zl (if l1 = (0 : Int32) then
    ((1 : Int32))
    else
    ((0 : Int32))) fun x2 =>
    if zbB x2 = true then
    some (x2)
    else none
def f8_isOf (n : Nat) (kd : zMK)  (l0 : Nat) (l1 : Int32)  : Option (Int32) :=
    if l1 = (2 : Int32) then
    some ((1 : Int32))
    else
    if zWkB n kd l0 = true then
    zb (f10_isOf l0 l1) fun p3 =>
    if p3 = (0 : Int32) then
    some ((0 : Int32))
    else
    some ((1 : Int32))
    else none
def f1_isOf (n : Nat) (kd : zMK)  (l0 : Nat) (l1 : Int32)  : Option (Int32) :=
    if l1 = (4 : Int32) then
    some ((1 : Int32))
    else
    if zWkB n kd l0 = true then
    zb (f8_isOf n kd l0 l1) fun p3 =>
    if p3 = (0 : Int32) then
    some ((0 : Int32))
    else
    some ((1 : Int32))
    else none
def f8_takesFor (n : Nat) (kd : zMK) (I : zMI)  (l0 : Nat) (l1 : Int32) (l2 : Int32)  : Option (Int32) :=
    if zWkB n kd l0 = true then
    some ((l1 + ((I l0 1) / (2 : Int32))))
    else none
def f1_takesFor (n : Nat) (kd : zMK) (I : zMI)  (l0 : Nat) (l1 : Int32) (l2 : Int32)  : Option (Int32) :=
    if zWkB n kd l0 = true then
    zb (f8_takesFor n kd I l0 l1 l2) fun p2 =>
    zl (if l2 ≤ (I l0 1) then
    ((1 : Int32))
    else
    ((2 : Int32))) fun x5 =>
    some ((p2 + x5))
    else none
def f1_stepFor   (l0 : Nat) (l1 : Int32)  : Option (Int32) :=
    some ((l1 * (2 : Int32)))
def f4_kind   (l0 : Nat)  : Option (Int32) :=
    some ((3 : Int32))
def f5_isOf (n : Nat) (kd : zMK)  (l0 : Nat) (l1 : Int32)  : Option (Int32) :=
    if l1 = (1 : Int32) then
    some ((1 : Int32))
    else
    if zWkB n kd l0 = true then
    zb (f10_isOf l0 l1) fun p3 =>
    if p3 = (0 : Int32) then
    some ((0 : Int32))
    else
    some ((1 : Int32))
    else none
def f4_isOf (n : Nat) (kd : zMK)  (l0 : Nat) (l1 : Int32)  : Option (Int32) :=
    if l1 = (3 : Int32) then
    some ((1 : Int32))
    else
    if zWkB n kd l0 = true then
    zb (f5_isOf n kd l0 l1) fun p3 =>
    if p3 = (0 : Int32) then
    some ((0 : Int32))
    else
    some ((1 : Int32))
    else none
def f10_takesFor   (l0 : Nat) (l1 : Int32) (l2 : Int32)  : Option (Int32) :=
    some (l1)
def f4_takesFor (n : Nat) (kd : zMK)  (l0 : Nat) (l1 : Int32) (l2 : Int32)  : Option (Int32) :=
    if zWkB n kd l0 = true then
    zb (f10_takesFor l0 l1 l2) fun p2 =>
    some ((p2 + (1 : Int32)))
    else none
def f4_waits   (l0 : Nat)  : Option (Int32) :=
    some ((0 : Int32))
def f5_kind   (l0 : Nat)  : Option (Int32) :=
    some ((1 : Int32))
def f5_stepFor (n : Nat) (kd : zMK) (I : zMI)  (l0 : Nat) (l1 : Int32)  : Option (Int32) :=
    if zWkB n kd l0 = true then
    some ((l1 - ((I l0 1) / (3 : Int32))))
    else none
def f8_kind   (l0 : Nat)  : Option (Int32) :=
    some ((2 : Int32))
def f9_kind   (l0 : Nat)  : Option (Int32) :=
    some ((5 : Int32))
def f9_isOf (n : Nat) (kd : zMK)  (l0 : Nat) (l1 : Int32)  : Option (Int32) :=
    if l1 = (5 : Int32) then
    some ((1 : Int32))
    else
    if zWkB n kd l0 = true then
    zb (f10_isOf l0 l1) fun p3 =>
    if p3 = (0 : Int32) then
    some ((0 : Int32))
    else
    some ((1 : Int32))
    else none
def f9_takesFor (n : Nat) (kd : zMK) (I : zMI)  (l0 : Nat) (l1 : Int32) (l2 : Int32)  : Option (Int32) :=
    if zWkB n kd l0 = true then
    zl (if l2 < (I l0 1) then
    (l1)
    else
    ((l1 / (2 : Int32)))) fun x3 =>
    some (x3)
    else none
def f10_kind   (l0 : Nat)  : Option (Int32) :=
    some ((0 : Int32))
def f10_stepFor   (l0 : Nat) (l1 : Int32)  : Option (Int32) :=
    some (l1)
def f10_waits   (l0 : Nat)  : Option (Int32) :=
    some ((1 : Int32))
def f10_beginGoing (n : Nat) (kd : zMK)  (l0 : Nat) (I : zMI) : Option (zMI) :=
    if zWkB n kd l0 = true then
    zl (uI I l0 3 (I l0 2)) fun J2 =>
    zl (uI J2 l0 4 (1 : Int32)) fun J4 =>
    zl (uI J4 l0 5 (0 : Int32)) fun J6 =>
    zl (uI J6 l0 6 (0 : Int32)) fun J8 =>
    zl (uI J8 l0 7 (0 : Int32)) fun J10 =>
    zl (uI J10 l0 8 (0 : Int32)) fun J12 =>
    zl (uI J12 l0 9 (0 : Int32)) fun J14 =>
    zl (uI J14 l0 10 (0 : Int32)) fun J16 =>
    some (J16)
    else none
def fv_kind (n : Nat) (kd : zMK) (I : zMI) (a : Nat)  : Option (Int32) :=
  if (kd a).1 = 17 then f1_kind a
  else   if (kd a).1 = 20 then f4_kind a
  else   if (kd a).1 = 21 then f5_kind a
  else   if (kd a).1 = 24 then f8_kind a
  else   if (kd a).1 = 25 then f9_kind a
  else   if (kd a).1 = 26 then f10_kind a
  else none

def fv_isOf (n : Nat) (kd : zMK) (I : zMI) (a : Nat) (p0 : Int32) : Option (Int32) :=
  if (kd a).1 = 17 then f1_isOf n kd a p0
  else   if (kd a).1 = 20 then f4_isOf n kd a p0
  else   if (kd a).1 = 21 then f5_isOf n kd a p0
  else   if (kd a).1 = 24 then f8_isOf n kd a p0
  else   if (kd a).1 = 25 then f9_isOf n kd a p0
  else   if (kd a).1 = 26 then f10_isOf a p0
  else none

def fv_takesFor (n : Nat) (kd : zMK) (I : zMI) (a : Nat) (p0 : Int32) (p1 : Int32) : Option (Int32) :=
  if (kd a).1 = 17 then f1_takesFor n kd I a p0 p1
  else   if (kd a).1 = 20 then f4_takesFor n kd a p0 p1
  else   if (kd a).1 = 21 then f10_takesFor a p0 p1
  else   if (kd a).1 = 24 then f8_takesFor n kd I a p0 p1
  else   if (kd a).1 = 25 then f9_takesFor n kd I a p0 p1
  else   if (kd a).1 = 26 then f10_takesFor a p0 p1
  else none

def fv_stepFor (n : Nat) (kd : zMK) (I : zMI) (a : Nat) (p0 : Int32) : Option (Int32) :=
  if (kd a).1 = 17 then f1_stepFor a p0
  else   if (kd a).1 = 20 then f5_stepFor n kd I a p0
  else   if (kd a).1 = 21 then f5_stepFor n kd I a p0
  else   if (kd a).1 = 24 then f10_stepFor a p0
  else   if (kd a).1 = 25 then f10_stepFor a p0
  else   if (kd a).1 = 26 then f10_stepFor a p0
  else none

def fv_waits (n : Nat) (kd : zMK) (I : zMI) (a : Nat)  : Option (Int32) :=
  if (kd a).1 = 17 then f10_waits a
  else   if (kd a).1 = 20 then f4_waits a
  else   if (kd a).1 = 21 then f10_waits a
  else   if (kd a).1 = 24 then f10_waits a
  else   if (kd a).1 = 25 then f10_waits a
  else   if (kd a).1 = 26 then f10_waits a
  else none

def fv_beginGoing (n : Nat) (kd : zMK) (I : zMI) (a : Nat)  : Option (zMI) :=
  if (kd a).1 = 17 then f10_beginGoing n kd a I
  else   if (kd a).1 = 20 then f10_beginGoing n kd a I
  else   if (kd a).1 = 21 then f10_beginGoing n kd a I
  else   if (kd a).1 = 24 then f10_beginGoing n kd a I
  else   if (kd a).1 = 25 then f10_beginGoing n kd a I
  else   if (kd a).1 = 26 then f10_beginGoing n kd a I
  else none

def f0_lay_L3 (n : Nat) (kd : zMK)  (k48 : Option Nat → Int32 → Int32 → zMI → zMR → Option (zMI × zMR)) : Nat → Nat → Nat → Option Nat → Int32 → Int32 → Int32 → zMI → zMR → Option (zMI × zMR)
  | 0, _, _, _, _, _, _, _, _ => none
  | q + 1, l1, l2, l3, l4, l5, l6, I, R =>
    if (9 : Int32) ≤ l6 then
    k48 l3 l4 l5 I R
    else
    if zKdB n kd l1 0 = true then
    if (Int32.ofNat ((kd l1).2)) ≤ l6 then
    k48 l3 l4 l5 I R
    else
    if zKdB n kd l2 0 = true then
    if (Int32.ofNat ((kd l2).2)) ≤ l6 then
    k48 l3 l4 l5 I R
    else
    if zib l6 9 = true then
    if zib l6 ((kd l1).2) = true then
    if zib l6 ((kd l2).2) = true then
    zb (f2_beginGoing (46 + l6.toNatClampNeg) (I l1 l6.toNatClampNeg) (I l2 l6.toNatClampNeg) I) fun p9 =>
    f0_lay_L3 n kd k48 q l1 l2 l3 l4 l5 (l6 + (1 : Int32)) p9 R
    else none
    else none
    else none
    else none
    else none
def f0_lay_B48 (n : Nat) (kd : zMK)   (l3 : Option Nat) (l4 : Int32) (l5 : Int32) (I : zMI) (R : zMR) : Option (zMI × zMR) :=
    zl (uR R 42 7 l3) fun T11 =>
    zl (uI I 42 4 l4) fun J13 =>
    zl (uI J13 42 3 l5) fun J15 =>
    zl (uI J15 42 2 (0 : Int32)) fun J17 =>
    zl (uI J17 42 5 (0 : Int32)) fun J19 =>
    zl (uI J19 42 8 (0 : Int32)) fun J21 =>
    zl (uI J21 42 9 (0 : Int32)) fun J23 =>
    zl (uI J23 42 10 (0 : Int32)) fun J25 =>
    zl (uI J25 42 11 (0 : Int32)) fun J27 =>
    zl (uI J27 42 12 (-1 : Int32)) fun J29 =>
    some (J29, T11)
def f0_lay (n : Nat) (kd : zMK)  (l1 : Nat) (l2 : Nat) (l3 : Option Nat) (l4 : Int32) (l5 : Int32) (I : zMI) (R : zMR) : Option (zMI × zMR) :=
    f0_lay_L3 n kd (f0_lay_B48 n kd) zF l1 l2 l3 l4 l5 (0 : Int32) I R
def f0_join (n : Nat) (kd : zMK)  (l1 : Option Nat) (I : zMI) (R : zMR) : Option (zMI × zMR) :=
    zm l1
    (some (I, R))
    fun a1 =>
    if (I 42 2) < (0 : Int32) then
    some (I, R)
    else
    if (5 : Int32) ≤ (I 42 2) then
    some (I, R)
    else
    if zWkB n kd a1 = true then
    zb (fv_beginGoing n kd I a1) fun p6 =>
    if zib (p6 42 2) 5 = true then
    zl (uR R 44 (p6 42 2).toNatClampNeg (some a1)) fun T9 =>
    zl (uI p6 42 2 ((p6 42 2) + (1 : Int32))) fun J11 =>
    some (J11, T9)
    else none
    else none
def f0_heapAt   (l1 : Int32)  : Option (Nat) :=
    zb (fJ9_floorMod_7cf53 l1 (9 : Int32)) fun p1 =>
    if zib p1 9 = true then
    some ((46 + p1.toNatClampNeg))
    else none
def f0_draw_L8    : Nat → Int64 → Int32 → zMI → Option (zMI)
  | 0, _, _, _ => none
  | q + 1, l2, l4, I =>
    if (9 : Int32) ≤ l4 then
    some (I)
    else
    if zib l4 9 = true then
    zl (uI I (46 + l4.toNatClampNeg) 2 ((((l2 * (48271 : Int64)) - (l2 * (48271 : Int64)) / (2147483647 : Int64) * (2147483647 : Int64)) - ((l2 * (48271 : Int64)) - (l2 * (48271 : Int64)) / (2147483647 : Int64) * (2147483647 : Int64)) / (10 : Int64) * (10 : Int64)).toInt32)) fun J3 =>
    f0_draw_L8  q ((l2 * (48271 : Int64)) - (l2 * (48271 : Int64)) / (2147483647 : Int64) * (2147483647 : Int64)) (l4 + (1 : Int32)) J3
    else none
def f0_draw   (l1 : Int32) (I : zMI) : Option (zMI) :=
    f0_draw_L8 zF (l1.toInt64 + (1 : Int64)) (0 : Int32) I
def f0_offAt (I : zMI)  (l1 : Int32)  : Option (Int32) :=
    zb (if l1 < (0 : Int32) then
    some ((-1 : Int32))
    else
    if (I 42 8) ≤ l1 then
    some ((-1 : Int32))
    else
    if (40 : Int32) ≤ l1 then
    some ((-1 : Int32))
    else
    if zib l1 40 = true then
    some ((I 45 l1.toNatClampNeg))
    else none) fun x5 =>
    some (x5)
def f3_read (n : Nat) (kd : zMK) (I : zMI) (R : zMR)  (l0 : Nat) (l1 : Int32)  : Option (Int32) :=
    zb (if ((-1 : Int32) - l1) < (0 : Int32) then
    some (l1)
    else
    if (6 : Int32) ≤ ((-1 : Int32) - l1) then
    some (l1)
    else
    if zKdB n kd l0 19 = true then
    zm (R l0 3) none fun a4 =>
    if zKdB n kd a4 0 = true then
    if zib ((-1 : Int32) - l1) ((kd a4).2) = true then
    some ((I a4 ((-1 : Int32) - l1).toNatClampNeg))
    else none
    else none
    else none) fun x8 =>
    some (x8)
def f3_worked   (l0 : Int32) (l1 : Int32) (l2 : Int32)  : Option (Int32) :=
    if l0 = (-21 : Int32) then
    zl (if l2 = (0 : Int32) then
    ((1 : Int32))
    else
    ((0 : Int32))) fun x3 =>
    some (x3)
    else
    if l0 = (-17 : Int32) then
    some ((l1 * l2))
    else
    if l0 = (-16 : Int32) then
    some ((l1 - l2))
    else
    if l0 = (-15 : Int32) then
    some ((l1 + l2))
    else
    if l0 = (-14 : Int32) then
    zl (if l1 = l2 then
    ((1 : Int32))
    else
    ((0 : Int32))) fun x11 =>
    some (x11)
    else
    if l0 = (-13 : Int32) then
    zl (if l2 ≤ l1 then
    ((0 : Int32))
    else
    ((1 : Int32))) fun x16 =>
    some (x16)
    else
    if l0 = (-12 : Int32) then
    zl (if l1 = (0 : Int32) then
    ((0 : Int32))
    else
    if l2 = (0 : Int32) then
    ((0 : Int32))
    else
    ((1 : Int32))) fun x22 =>
    some (x22)
    else
    if l0 = (-11 : Int32) then
    zl (if l1 = (0 : Int32) then
    if l2 = (0 : Int32) then
    ((0 : Int32))
    else
    ((1 : Int32))
    else
    ((1 : Int32))) fun x28 =>
    some (x28)
    else
    some ((-l2))
def f3_bounded   (l0 : Int32) (l1 : Int32)  : Option (Int32) :=
    if l0 = (2 : Int32) then
    zl (if (0 : Int32) < l1 then l1 else (0 : Int32)) fun x6 =>
    zl (if x6 < (99 : Int32) then x6 else (99 : Int32)) fun x8 =>
    some (x8)
    else
    zl (if (1 : Int32) < l1 then l1 else (1 : Int32)) fun x2 =>
    zl (if x2 < (20 : Int32) then x2 else (20 : Int32)) fun x4 =>
    some (x4)
def f3_says_B228 (n : Nat) (kd : zMK) (R : zMR)  (k109 : Nat → Int32 → Int32 → Int32 → zMI → Option (Int32 × zMI)) (l0 : Nat) (l1 : Int32) (l8 : Int32) (l11 : Int32) (s0 : Nat) (s1 : Int32) (s2 : Int32) (I : zMI) : Option (Int32 × zMI) :=
    if zKdB n kd s0 0 = true then
    if zib s1 ((kd s0).2) = true then
    zl (uI I s0 s1.toNatClampNeg s2) fun J3 =>
    k109 l0 l1 (l11 + (1 : Int32)) (l8 + (1 : Int32)) J3
    else none
    else none
def f3_says_L109 (n : Nat) (kd : zMK) (R : zMR)  (k241 : Nat → Int32 → Int32 → zMI → Option (Int32 × zMI)) : Nat → Nat → Int32 → Int32 → Int32 → zMI → Option (Int32 × zMI)
  | 0, _, _, _, _, _ => none
  | q + 1, l0, l1, l7, l8, I =>
    if zKdB n kd l0 19 = true then
    zm (R l0 1) none fun a6 =>
    if zKdB n kd a6 0 = true then
    if zib (l1 + (1 : Int32)) ((kd a6).2) = true then
    if (I a6 (l1 + (1 : Int32)).toNatClampNeg) ≤ l8 then
    k241 l0 l1 l7 I
    else
    zm (R l0 0) none fun a11 =>
    if zKdB n kd a11 0 = true then
    if (Int32.ofNat ((kd a11).2)) ≤ l8 then
    k241 l0 l1 l7 I
    else
    zm (R l0 0) none fun a15 =>
    if zKdB n kd a15 0 = true then
    if zib l8 ((kd a15).2) = true then
    zl (if (I a15 l8.toNatClampNeg) < (-6 : Int32) then
    if (I a15 l8.toNatClampNeg) < (-19 : Int32) then
    ((1 : Int32))
    else
    ((2 : Int32))
    else
    ((0 : Int32))) fun x21 =>
    if (l7 - x21) < (0 : Int32) then
    some ((0 : Int32), I)
    else
    if l7 < (40 : Int32) then
    zm (R l0 2) none fun a25 =>
    if x21 = (0 : Int32) then
    zb (f3_read n kd I R l0 (I a15 l8.toNatClampNeg)) fun p38 =>
    f3_says_B228 n kd R (f3_says_L109 n kd R k241 q) l0 l1 l8 (l7 - x21) a25 (l7 - x21) p38 I
    else
    zm (R l0 2) none fun a28 =>
    if zKdB n kd a28 0 = true then
    if zib (l7 - x21) ((kd a28).2) = true then
    zm (R l0 2) none fun a32 =>
    if zKdB n kd a32 0 = true then
    if zib (l7 - (1 : Int32)) ((kd a32).2) = true then
    zb (f3_worked (I a15 l8.toNatClampNeg) (I a28 (l7 - x21).toNatClampNeg) (I a32 (l7 - (1 : Int32)).toNatClampNeg)) fun p36 =>
    f3_says_B228 n kd R (f3_says_L109 n kd R k241 q) l0 l1 l8 (l7 - x21) a25 (l7 - x21) p36 I
    else none
    else none
    else none
    else none
    else
    some ((0 : Int32), I)
    else none
    else none
    else none
    else none
    else none
    else none
def f3_says_B241 (n : Nat) (kd : zMK) (R : zMR)   (l0 : Nat) (l1 : Int32) (l7 : Int32) (I : zMI) : Option (Int32 × zMI) :=
    zb (if l7 = (1 : Int32) then
    if zKdB n kd l0 19 = true then
    zm (R l0 2) none fun a43 =>
    if zKdB n kd a43 0 = true then
    if zib (0 : Int32) ((kd a43).2) = true then
    some ((I a43 (0 : Int32).toNatClampNeg))
    else none
    else none
    else none
    else
    some ((0 : Int32))) fun x47 =>
    zb (f3_bounded l1 x47) fun p49 =>
    some (p49, I)
def f3_says (n : Nat) (kd : zMK) (R : zMR)  (l0 : Nat) (l1 : Int32) (l2 : Option Nat) (l3 : Int32) (l4 : Int32) (l5 : Int32) (l6 : Int32) (I : zMI) : Option (Int32 × zMI) :=
    if l1 < (0 : Int32) then
    some ((0 : Int32), I)
    else
    if (3 : Int32) ≤ l1 then
    some ((0 : Int32), I)
    else
    if zKdB n kd l0 19 = true then
    zm (R l0 1) none fun a55 =>
    if zKdB n kd a55 0 = true then
    if (Int32.ofNat ((kd a55).2)) ≤ (l1 + (1 : Int32)) then
    some ((0 : Int32), I)
    else
    zm l2
    (some ((0 : Int32), I))
    fun a59 =>
    zm (R l0 4) none fun a61 =>
    if zKdB n kd a61 0 = true then
    if zib l1 ((kd a61).2) = true then
    if (I a61 l1.toNatClampNeg) = (-1 : Int32) then
    zm (R l0 3) none fun a66 =>
    if zKdB n kd a66 0 = true then
    if zib (0 : Int32) ((kd a66).2) = true then
    zl (uI I a66 (0 : Int32).toNatClampNeg l3) fun J70 =>
    zm (R l0 3) none fun a72 =>
    if zWkB n kd a59 = true then
    if zKdB n kd a72 0 = true then
    if zib (1 : Int32) ((kd a72).2) = true then
    zl (uI J70 a72 (1 : Int32).toNatClampNeg (J70 a59 0)) fun J77 =>
    zm (R l0 3) none fun a79 =>
    if zKdB n kd a79 0 = true then
    if zib (2 : Int32) ((kd a79).2) = true then
    zl (uI J77 a79 (2 : Int32).toNatClampNeg (J77 a59 1)) fun J83 =>
    zm (R l0 3) none fun a85 =>
    if zKdB n kd a85 0 = true then
    if zib (3 : Int32) ((kd a85).2) = true then
    zl (uI J83 a85 (3 : Int32).toNatClampNeg l4) fun J89 =>
    zm (R l0 3) none fun a91 =>
    if zKdB n kd a91 0 = true then
    if zib (4 : Int32) ((kd a91).2) = true then
    zl (uI J89 a91 (4 : Int32).toNatClampNeg l5) fun J95 =>
    zm (R l0 3) none fun a97 =>
    if zKdB n kd a97 0 = true then
    if zib (5 : Int32) ((kd a97).2) = true then
    zl (uI J95 a97 (5 : Int32).toNatClampNeg l6) fun J101 =>
    zm (R l0 1) none fun a103 =>
    if zKdB n kd a103 0 = true then
    if zib l1 ((kd a103).2) = true then
    zl (if (0 : Int32) < (J101 a103 l1.toNatClampNeg) then (J101 a103 l1.toNatClampNeg) else (0 : Int32)) fun x107 =>
    f3_says_L109 n kd R (f3_says_B241 n kd R) zF l0 l1 (0 : Int32) x107 J101
    else none
    else none
    else none
    else none
    else none
    else none
    else none
    else none
    else none
    else none
    else none
    else none
    else none
    else none
    else none
    else
    zm (R l0 4) none fun a109 =>
    if zKdB n kd a109 0 = true then
    if zib l1 ((kd a109).2) = true then
    some ((I a109 l1.toNatClampNeg), I)
    else none
    else none
    else none
    else none
    else none
    else none
def f0_badness_B62 (n : Nat) (kd : zMK) (R : zMR)  (k4 : Int32 → Int32 → zMI → Option (Int32 × zMI)) (l1 : Int32) (l2 : Int32) (I : zMI) : Option (Int32 × zMI) :=
    k4 l1 (l2 + (1 : Int32)) I
def f0_badness_L4 (n : Nat) (kd : zMK) (R : zMR)   : Nat → Int32 → Int32 → zMI → Option (Int32 × zMI)
  | 0, _, _, _ => none
  | q + 1, l1, l2, I =>
    if (I 42 2) ≤ l2 then
    some (l1, I)
    else
    if (5 : Int32) ≤ l2 then
    some (l1, I)
    else
    if zib l2 5 = true then
    zm (R 44 l2.toNatClampNeg)
    (f0_badness_B62 n kd R (f0_badness_L4 n kd R q) l1 l2 I)
    fun a4 =>
    zm (R 42 7)
    (f0_badness_B62 n kd R (f0_badness_L4 n kd R q) l1 l2 I)
    fun a6 =>
    if zWkB n kd a4 = true then
    if zKdB n kd a6 19 = true then
    zb (f3_says n kd R a6 (2 : Int32) (some a4) (0 : Int32) (0 : Int32) (I a4 6) (I 42 3) I) fun p10 =>
    zl (l1 + ((I a4 7) * p10.1)) fun x12 =>
    f0_badness_B62 n kd R (f0_badness_L4 n kd R q) x12 l2 p10.2
    else none
    else none
    else none
def f0_badness (n : Nat) (kd : zMK) (R : zMR)   (I : zMI) : Option (Int32 × zMI) :=
    f0_badness_L4 n kd R zF (0 : Int32) (0 : Int32) I
def f0_endProgramme_B119 (n : Nat) (kd : zMK)   (l1 : Nat) (I : zMI) : Option (zMI) :=
    if zWkB n kd l1 = true then
    zl (uI I l1 6 ((I l1 6) + (1 : Int32))) fun J2 =>
    zl (uI J2 l1 8 (0 : Int32)) fun J4 =>
    zl (uI J4 l1 9 (0 : Int32)) fun J6 =>
    zl (uI J6 l1 10 (0 : Int32)) fun J8 =>
    some (J8)
    else none
def f0_endProgramme_B90 (n : Nat) (kd : zMK)   (l1 : Nat) (I : zMI) : Option (zMI) :=
    zl (uI I 42 9 ((I 42 9) + (1 : Int32))) fun J10 =>
    if (J10 42 9) = (J10 42 4) then
    zl (uI J10 42 12 (J10 42 5)) fun J13 =>
    f0_endProgramme_B119 n kd l1 J13
    else
    f0_endProgramme_B119 n kd l1 J10
def f0_endProgramme_B51 (n : Nat) (kd : zMK)   (l1 : Nat) (I : zMI) : Option (zMI) :=
    if (I 42 8) < (0 : Int32) then
    f0_endProgramme_B90 n kd l1 I
    else
    if (40 : Int32) ≤ (I 42 8) then
    f0_endProgramme_B90 n kd l1 I
    else
    if zib (I 42 8) 40 = true then
    zl (uI I 45 (I 42 8).toNatClampNeg (I 42 9)) fun J18 =>
    zl (uI J18 42 8 ((J18 42 8) + (1 : Int32))) fun J20 =>
    f0_endProgramme_B90 n kd l1 J20
    else none
def f0_endProgramme_B37 (n : Nat) (kd : zMK)   (l1 : Nat) (I : zMI) : Option (zMI) :=
    if zWkB n kd l1 = true then
    if (I l1 10) = (0 : Int32) then
    if (I l1 9) = (0 : Int32) then
    f0_endProgramme_B90 n kd l1 I
    else
    f0_endProgramme_B51 n kd l1 I
    else
    f0_endProgramme_B51 n kd l1 I
    else none
def f0_endProgramme (n : Nat) (kd : zMK)  (l1 : Nat) (I : zMI) : Option (zMI) :=
    if zWkB n kd l1 = true then
    if (I l1 10) = (0 : Int32) then
    if (I l1 9) = (0 : Int32) then
    f0_endProgramme_B37 n kd l1 I
    else
    zl (uI I 42 10 ((I 42 10) + (1 : Int32))) fun J28 =>
    f0_endProgramme_B37 n kd l1 J28
    else
    zl (uI I 42 11 ((I 42 11) + (1 : Int32))) fun J30 =>
    f0_endProgramme_B37 n kd l1 J30
    else none
def f0_stepOf_B33 (n : Nat) (kd : zMK) (R : zMR)   (l1 : Nat) (s0 : Int32) (I : zMI) : Option (Int32 × zMI) :=
    if zWkB n kd l1 = true then
    zb (fv_stepFor n kd I l1 s0) fun p2 =>
    zl (if (1 : Int32) < p2 then p2 else (1 : Int32)) fun x4 =>
    some (x4, I)
    else none
def f0_stepOf (n : Nat) (kd : zMK) (R : zMR)  (l1 : Nat) (l2 : Nat) (l3 : Int32) (I : zMI) : Option (Int32 × zMI) :=
    zm (R 42 7)
    (f0_stepOf_B33 n kd R l1 (1 : Int32) I)
    fun a6 =>
    if zHpB l2 = true then
    if zKdB n kd a6 19 = true then
    zb (f3_says n kd R a6 (1 : Int32) (some l1) (I l2 0) (I l2 1) l3 (I 42 3) I) fun p10 =>
    f0_stepOf_B33 n kd R l1 p10.1 p10.2
    else none
    else none
def f0_endTaking_B66 (n : Nat) (kd : zMK) (R : zMR)   (l1 : Nat) (l2 : Nat) (I : zMI) : Option (zMI) :=
    if zWkB n kd l1 = true then
    zl (uI I l1 4 (0 : Int32)) fun J2 =>
    zb (f0_stepOf n kd R l1 l2 (J2 l1 6) J2) fun p4 =>
    zl (uI p4.2 l1 5 p4.1) fun J6 =>
    zl (uI J6 l1 3 (((J6 l1 3) + (1 : Int32)) - ((J6 l1 3) + (1 : Int32)) / (9 : Int32) * (9 : Int32))) fun J8 =>
    some (J8)
    else none
def f0_endTaking_B42 (n : Nat) (kd : zMK) (R : zMR)   (l1 : Nat) (l2 : Nat) (I : zMI) : Option (zMI) :=
    if zWkB n kd l1 = true then
    zl (uI I l1 8 ((I l1 8) + (1 : Int32))) fun J11 =>
    if (J11 l1 8) = (9 : Int32) then
    zb (f0_endProgramme n kd l1 J11) fun p14 =>
    f0_endTaking_B66 n kd R l1 l2 p14
    else
    f0_endTaking_B66 n kd R l1 l2 J11
    else none
def f0_endTaking (n : Nat) (kd : zMK) (R : zMR)  (l1 : Nat) (l2 : Nat) (I : zMI) : Option (zMI) :=
    if zHpB l2 = true then
    zl (uI I l2 4 ((I l2 4) - (1 : Int32))) fun J17 =>
    zb (f2_lift l2 (J17 42 5) J17) fun p19 =>
    if p19.1 = (1 : Int32) then
    if zWkB n kd l1 = true then
    zl (uI p19.2 l1 9 (1 : Int32)) fun J27 =>
    f0_endTaking_B42 n kd R l1 l2 J27
    else none
    else
    if p19.1 = (2 : Int32) then
    if zWkB n kd l1 = true then
    zl (uI p19.2 l1 10 (1 : Int32)) fun J24 =>
    f0_endTaking_B42 n kd R l1 l2 J24
    else none
    else
    f0_endTaking_B42 n kd R l1 l2 p19.2
    else none
def f0_takesOf_B33 (n : Nat) (kd : zMK) (R : zMR)   (l1 : Nat) (l3 : Int32) (s0 : Int32) (I : zMI) : Option (Int32 × zMI) :=
    if zWkB n kd l1 = true then
    zb (fv_takesFor n kd I l1 s0 l3) fun p2 =>
    zl (if (1 : Int32) < p2 then p2 else (1 : Int32)) fun x4 =>
    some (x4, I)
    else none
def f0_takesOf (n : Nat) (kd : zMK) (R : zMR)  (l1 : Nat) (l2 : Nat) (l3 : Int32) (I : zMI) : Option (Int32 × zMI) :=
    zm (R 42 7)
    (f0_takesOf_B33 n kd R l1 l3 (1 : Int32) I)
    fun a6 =>
    if zHpB l2 = true then
    if zKdB n kd a6 19 = true then
    zb (f3_says n kd R a6 (0 : Int32) (some l1) (I l2 0) (I l2 1) l3 (I 42 3) I) fun p10 =>
    f0_takesOf_B33 n kd R l1 l3 p10.1 p10.2
    else none
    else none
def f0_moveOn_B63 (n : Nat) (kd : zMK) (R : zMR)   (l1 : Nat) (l2 : Nat) (I : zMI) : Option (zMI) :=
    if zWkB n kd l1 = true then
    zl (uI I l1 4 (2 : Int32)) fun J2 =>
    zb (f0_takesOf n kd R l1 l2 (J2 l1 6) J2) fun p4 =>
    zl (uI p4.2 l1 5 p4.1) fun J6 =>
    if zHpB l2 = true then
    zl (uI J6 l2 4 ((J6 l2 4) + (1 : Int32))) fun J9 =>
    some (J9)
    else none
    else none
def f0_moveOn (n : Nat) (kd : zMK) (R : zMR)  (l1 : Nat) (I : zMI) : Option (zMI) :=
    if zWkB n kd l1 = true then
    zb (f0_heapAt (I l1 3)) fun p12 =>
    zl (uI I l1 5 (0 : Int32)) fun J14 =>
    if (J14 l1 4) = (2 : Int32) then
    zb (f0_endTaking n kd R l1 p12 J14) fun p26 =>
    some (p26)
    else
    if zHpB p12 = true then
    if (J14 p12 4) ≤ (0 : Int32) then
    f0_moveOn_B63 n kd R l1 p12 J14
    else
    zb (fv_waits n kd J14 l1) fun p19 =>
    if p19 = (0 : Int32) then
    f0_moveOn_B63 n kd R l1 p12 J14
    else
    zl (uI J14 l1 4 (1 : Int32)) fun J22 =>
    zl (uI J22 l1 7 ((J22 l1 7) + (1 : Int32))) fun J24 =>
    some (J24)
    else none
    else none
def f0_pass_B69 (n : Nat) (kd : zMK) (R : zMR)  (k9 : Int32 → Int32 → Int32 → zMI → Option (zMI)) (l1 : Int32) (l2 : Int32) (l3 : Int32) (I : zMI) : Option (zMI) :=
    k9 l1 l2 (l3 + (1 : Int32)) I
def f0_pass_B58 (n : Nat) (kd : zMK) (R : zMR)  (k9 : Int32 → Int32 → Int32 → zMI → Option (zMI)) (l1 : Int32) (l2 : Int32) (l3 : Int32) (l4 : Option Nat) (I : zMI) : Option (zMI) :=
    zm l4
    (f0_pass_B69 n kd R k9 l1 l2 l3 I)
    fun a1 =>
    zb (f0_moveOn n kd R a1 I) fun p3 =>
    f0_pass_B69 n kd R k9 l1 l2 l3 p3
def f0_pass_L9 (n : Nat) (kd : zMK) (R : zMR)  (k75 : Int32 → Int32 → zMI → Option (zMI)) : Nat → Int32 → Int32 → Int32 → zMI → Option (zMI)
  | 0, _, _, _, _ => none
  | q + 1, l1, l2, l3, I =>
    if (I 42 2) ≤ l3 then
    k75 l1 l2 I
    else
    if (5 : Int32) ≤ l3 then
    k75 l1 l2 I
    else
    if zib l3 5 = true then
    zm (R 44 l3.toNatClampNeg)
    (f0_pass_B58 n kd R (f0_pass_L9 n kd R k75 q) l1 l2 l3 (R 44 l3.toNatClampNeg) I)
    fun a8 =>
    if zWkB n kd a8 = true then
    if (I a8 5) ≤ (1 : Int32) then
    f0_pass_B58 n kd R (f0_pass_L9 n kd R k75 q) l1 l2 l3 (R 44 l3.toNatClampNeg) I
    else
    zl (uI I a8 5 ((I a8 5) - (1 : Int32))) fun J12 =>
    f0_pass_B69 n kd R (f0_pass_L9 n kd R k75 q) l1 l2 l3 J12
    else none
    else none
def f0_pass_B75 (n : Nat) (kd : zMK) (R : zMR)  (k2 : Int32 → Int32 → zMI → Option (zMI)) (l1 : Int32) (l2 : Int32) (I : zMI) : Option (zMI) :=
    zl (uI I 42 5 ((I 42 5) + (1 : Int32))) fun J14 =>
    k2 l1 (l2 + (1 : Int32)) J14
def f0_pass_L2 (n : Nat) (kd : zMK) (R : zMR)   : Nat → Int32 → Int32 → zMI → Option (zMI)
  | 0, _, _, _ => none
  | q + 1, l1, l2, I =>
    if l1 ≤ l2 then
    some (I)
    else
    f0_pass_L9 n kd R (f0_pass_B75 n kd R (f0_pass_L2 n kd R q)) zF l1 l2 (0 : Int32) I
def f0_pass (n : Nat) (kd : zMK) (R : zMR)  (l1 : Int32) (I : zMI) : Option (zMI) :=
    f0_pass_L2 n kd R zF l1 (0 : Int32) I
def f7_add   (l1 : Int32) (I : zMI) : Option (zMI) :=
    if (I 37 1) < (0 : Int32) then
    some (I)
    else
    if (160 : Int32) ≤ (I 37 1) then
    some (I)
    else
    if zib (I 37 1) 160 = true then
    zl (uI I 38 (I 37 1).toNatClampNeg l1) fun J4 =>
    zl (uI J4 37 1 ((J4 37 1) + (1 : Int32))) fun J6 =>
    some (J6)
    else none
def f7_byteAt (I : zMI)  (l1 : Int32)  : Option (Int32) :=
    zb (if l1 < (0 : Int32) then
    some ((-1 : Int32))
    else
    if (I 37 1) ≤ l1 then
    some ((-1 : Int32))
    else
    if (160 : Int32) ≤ l1 then
    some ((-1 : Int32))
    else
    if zib l1 160 = true then
    some ((I 38 l1.toNatClampNeg))
    else none) fun x5 =>
    some (x5)
def f7_isLetter   (l0 : Int32)  : Option (Int32) :=
    zl (if l0 < (97 : Int32) then
    ((0 : Int32))
    else
    if (122 : Int32) < l0 then
    ((0 : Int32))
    else
    ((1 : Int32))) fun x3 =>
    if zbB x3 = true then
    some (x3)
    else none
def f7_spells_L20 (I : zMI)   : Nat → Nat → Int32 → Option (Int32)
  | 0, _, _ => none
  | q + 1, l1, l2 =>
    if decide (l1 < 12) = true then
    zb (fJ0_length_8abf5 l1) fun p2 =>
    if p2 ≤ l2 then
    some ((1 : Int32))
    else
    if ((I 37 4) + l2) < (0 : Int32) then
    some ((0 : Int32))
    else
    if (160 : Int32) ≤ ((I 37 4) + l2) then
    some ((0 : Int32))
    else
    if zib ((I 37 4) + l2) 160 = true then
    zb (fJ0_charAt_5068e l1 l2) fun p8 =>
    if (I 38 ((I 37 4) + l2).toNatClampNeg) = p8 then
    f7_spells_L20 I q l1 (l2 + (1 : Int32))
    else
    some ((0 : Int32))
    else none
    else none
def f7_spells (I : zMI)  (l1 : Nat)  : Option (Int32) :=
    if decide (l1 < 12) = true then
    zb (fJ0_length_8abf5 l1) fun p12 =>
    if p12 = ((I 37 2) - (I 37 4)) then
    f7_spells_L20 I zF l1 (0 : Int32)
    else
    some ((0 : Int32))
    else none
def f7_takeWord_L2   (k39 : zMI → Option (zMI)) : Nat → Int32 → zMI → Option (zMI)
  | 0, _, _ => none
  | q + 1, l1, I =>
    if (160 : Int32) ≤ l1 then
    k39 I
    else
    zb (f7_byteAt I (I 37 2)) fun p2 =>
    zb (f7_isLetter p2) fun p4 =>
    if p4 = (0 : Int32) then
    k39 I
    else
    zl (uI I 37 2 ((I 37 2) + (1 : Int32))) fun J7 =>
    f7_takeWord_L2 k39 q (l1 + (1 : Int32)) J7
def f7_takeWord_B205    (s0 : Int32) (I : zMI) : Option (zMI) :=
    if s0 = (-1 : Int32) then
    some (I)
    else
    zl (uI I 37 3 (3 : Int32)) fun J10 =>
    zl (uI J10 37 5 ((-1 : Int32) - s0)) fun J12 =>
    some (J12)
def f7_takeWord_B123    (s1 : Int32) (I : zMI) : Option (zMI) :=
    zl (uI I 37 3 s1) fun J14 =>
    zb (f7_spells J14 6) fun p16 =>
    if p16 = (0 : Int32) then
    zb (f7_spells J14 7) fun p19 =>
    if p19 = (0 : Int32) then
    zb (f7_spells J14 8) fun p22 =>
    if p22 = (0 : Int32) then
    zb (f7_spells J14 9) fun p25 =>
    if p25 = (0 : Int32) then
    zb (f7_spells J14 10) fun p28 =>
    if p28 = (0 : Int32) then
    zb (f7_spells J14 11) fun p31 =>
    if p31 = (0 : Int32) then
    f7_takeWord_B205 (-1 : Int32) J14
    else
    f7_takeWord_B205 (5 : Int32) J14
    else
    f7_takeWord_B205 (4 : Int32) J14
    else
    f7_takeWord_B205 (3 : Int32) J14
    else
    f7_takeWord_B205 (2 : Int32) J14
    else
    f7_takeWord_B205 (1 : Int32) J14
    else
    f7_takeWord_B205 (0 : Int32) J14
def f7_takeWord_B39     (I : zMI) : Option (zMI) :=
    zb (f7_spells I 0) fun p34 =>
    if p34 = (0 : Int32) then
    zb (f7_spells I 1) fun p37 =>
    if p37 = (0 : Int32) then
    zb (f7_spells I 2) fun p40 =>
    if p40 = (0 : Int32) then
    zb (f7_spells I 3) fun p43 =>
    if p43 = (0 : Int32) then
    zb (f7_spells I 4) fun p46 =>
    if p46 = (0 : Int32) then
    zb (f7_spells I 5) fun p49 =>
    if p49 = (0 : Int32) then
    f7_takeWord_B123 (1 : Int32) I
    else
    f7_takeWord_B123 (9 : Int32) I
    else
    f7_takeWord_B123 (8 : Int32) I
    else
    f7_takeWord_B123 (7 : Int32) I
    else
    f7_takeWord_B123 (6 : Int32) I
    else
    f7_takeWord_B123 (5 : Int32) I
    else
    f7_takeWord_B123 (4 : Int32) I
def f7_takeWord    (I : zMI) : Option (zMI) :=
    f7_takeWord_L2 (f7_takeWord_B39) zF (0 : Int32) I
def f7_isDigit   (l0 : Int32)  : Option (Int32) :=
    zl (if l0 < (48 : Int32) then
    ((0 : Int32))
    else
    if (57 : Int32) < l0 then
    ((0 : Int32))
    else
    ((1 : Int32))) fun x3 =>
    if zbB x3 = true then
    some (x3)
    else none
def f7_takeNumber_L4   (k58 : Int32 → zMI → Option (zMI)) : Nat → Int32 → Int32 → zMI → Option (zMI)
  | 0, _, _, _ => none
  | q + 1, l1, l2, I =>
    if (160 : Int32) ≤ l2 then
    k58 l1 I
    else
    zb (f7_byteAt I (I 37 2)) fun p2 =>
    zb (f7_isDigit p2) fun p4 =>
    if p4 = (0 : Int32) then
    k58 l1 I
    else
    zb (f7_byteAt I (I 37 2)) fun p7 =>
    zl (((l1 * (10 : Int32)) + p7) - (48 : Int32)) fun x9 =>
    zl (uI I 37 2 ((I 37 2) + (1 : Int32))) fun J11 =>
    f7_takeNumber_L4 k58 q x9 (l2 + (1 : Int32)) J11
def f7_takeNumber_B58    (l1 : Int32) (I : zMI) : Option (zMI) :=
    zl (if ((I 37 2) - (I 37 4)) ≤ (4 : Int32) then
    ((2 : Int32))
    else
    ((1 : Int32))) fun x14 =>
    zl (uI I 37 3 x14) fun J16 =>
    zl (uI J16 37 5 l1) fun J18 =>
    some (J18)
def f7_takeNumber    (I : zMI) : Option (zMI) :=
    f7_takeNumber_L4 (f7_takeNumber_B58) zF (0 : Int32) (0 : Int32) I
def f7_isSign   (l0 : Int32)  : Option (Int32) :=
    zl (if l0 = (40 : Int32) then
    ((1 : Int32))
    else
    if l0 = (41 : Int32) then
    ((1 : Int32))
    else
    if l0 = (59 : Int32) then
    ((1 : Int32))
    else
    if l0 = (43 : Int32) then
    ((1 : Int32))
    else
    if l0 = (45 : Int32) then
    ((1 : Int32))
    else
    if l0 = (42 : Int32) then
    ((1 : Int32))
    else
    if l0 = (60 : Int32) then
    ((1 : Int32))
    else
    if l0 = (61 : Int32) then
    ((1 : Int32))
    else
    ((0 : Int32))) fun x9 =>
    if zbB x9 = true then
    some (x9)
    else none
def f7_nextToken_B35   (k2 : Int32 → zMI → Option (zMI)) (l1 : Int32) (I : zMI) : Option (zMI) :=
    zl (uI I 37 2 ((I 37 2) + (1 : Int32))) fun J1 =>
    k2 (l1 + (1 : Int32)) J1
def f7_nextToken_L2   (k51 : zMI → Option (zMI)) : Nat → Int32 → zMI → Option (zMI)
  | 0, _, _ => none
  | q + 1, l1, I =>
    if (160 : Int32) ≤ l1 then
    k51 I
    else
    zb (f7_byteAt I (I 37 2)) fun p4 =>
    if p4 = (32 : Int32) then
    f7_nextToken_B35 (f7_nextToken_L2 k51 q) l1 I
    else
    zb (f7_byteAt I (I 37 2)) fun p7 =>
    if p7 = (10 : Int32) then
    f7_nextToken_B35 (f7_nextToken_L2 k51 q) l1 I
    else
    k51 I
def f7_nextToken_B51     (I : zMI) : Option (zMI) :=
    zl (uI I 37 4 (I 37 2)) fun J10 =>
    zb (f7_byteAt J10 (J10 37 2)) fun p12 =>
    if p12 = (-1 : Int32) then
    zl (uI J10 37 3 (0 : Int32)) fun J35 =>
    some (J35)
    else
    zb (f7_isLetter p12) fun p15 =>
    if p15 = (0 : Int32) then
    zb (f7_isDigit p12) fun p18 =>
    if p18 = (0 : Int32) then
    zl (uI J10 37 2 ((J10 37 2) + (1 : Int32))) fun J21 =>
    zb (f7_isSign p12) fun p23 =>
    zl (if p23 = (0 : Int32) then
    ((1 : Int32))
    else
    (p12)) fun x26 =>
    zl (uI J21 37 3 x26) fun J28 =>
    some (J28)
    else
    zb (f7_takeNumber J10) fun p31 =>
    some (p31)
    else
    zb (f7_takeWord J10) fun p33 =>
    some (p33)
def f7_nextToken    (I : zMI) : Option (zMI) :=
    f7_nextToken_L2 (f7_nextToken_B51) zF (0 : Int32) I
def f7_fail    (I : zMI) : Option (zMI) :=
    if (I 37 6) = (-1 : Int32) then
    zl (uI I 37 6 (I 37 4)) fun J2 =>
    some (J2)
    else
    some (I)
def f7_expect   (l1 : Int32) (I : zMI) : Option (zMI) :=
    if (I 37 3) = l1 then
    zb (f7_nextToken I) fun p4 =>
    some (p4)
    else
    zb (f7_fail I) fun p2 =>
    some (p2)
def f7_mayOpen_B9     (I : zMI) : Option (Int32 × zMI) :=
    zl (if (I 37 6) = (-1 : Int32) then
    ((1 : Int32))
    else
    ((0 : Int32))) fun x2 =>
    if zbB x2 = true then
    some (x2, I)
    else none
def f7_mayOpen   (l1 : Int32) (I : zMI) : Option (Int32 × zMI) :=
    if l1 < (5 : Int32) then
    f7_mayOpen_B9 I
    else
    zb (f7_fail I) fun p7 =>
    f7_mayOpen_B9 p7
def f7_put   (l1 : Int32) (I : zMI) : Option (zMI) :=
    if (I 37 8) < (0 : Int32) then
    some (I)
    else
    if (160 : Int32) ≤ (I 37 8) then
    some (I)
    else
    if zib (I 37 8) 160 = true then
    zl (uI I 39 (I 37 8).toNatClampNeg l1) fun J4 =>
    zl (uI J4 37 8 ((J4 37 8) + (1 : Int32))) fun J6 =>
    some (J6)
    else none
def f7_readOne_B16  (rc : Nat → Int32 → zMI → Option zMI)   (I : zMI) : Option (zMI) :=
    zb (f7_put (I 37 5) I) fun p1 =>
    zb (f7_nextToken p1) fun p3 =>
    some (p3)
def f7_readOne_B68  (rc : Nat → Int32 → zMI → Option zMI)  (l1 : Int32) (I : zMI) : Option (zMI) :=
    if (I 37 3) = (40 : Int32) then
    zb (f7_mayOpen l1 I) fun p8 =>
    if p8.1 = (0 : Int32) then
    zb (f7_fail p8.2) fun p11 =>
    some (p11)
    else
    zb (f7_nextToken p8.2) fun p13 =>
    zb (rc 0 (l1 + (1 : Int32)) p13) fun p15 =>
    zb (f7_expect (41 : Int32) p15) fun p17 =>
    some (p17)
    else
    zb (f7_fail I) fun p6 =>
    some (p6)
def f7_readOne  (rc : Nat → Int32 → zMI → Option zMI) (l1 : Int32) (I : zMI) : Option (zMI) :=
    if (I 37 3) = (2 : Int32) then
    f7_readOne_B16 rc I
    else
    if (I 37 3) = (3 : Int32) then
    f7_readOne_B16 rc I
    else
    if (I 37 3) = (45 : Int32) then
    zb (f7_mayOpen l1 I) fun p22 =>
    if p22.1 = (0 : Int32) then
    f7_readOne_B68 rc l1 p22.2
    else
    zb (f7_nextToken p22.2) fun p25 =>
    zb (rc 2 (l1 + (1 : Int32)) p25) fun p27 =>
    zb (f7_put (-22 : Int32) p27) fun p29 =>
    some (p29)
    else
    f7_readOne_B68 rc l1 I
def f7_readTerm_L7  (rc : Nat → Int32 → zMI → Option zMI)  : Nat → Int32 → Int32 → zMI → Option (zMI)
  | 0, _, _, _ => none
  | q + 1, l1, l2, I =>
    if (160 : Int32) ≤ l2 then
    some (I)
    else
    if (I 37 3) = (42 : Int32) then
    if (I 37 6) = (-1 : Int32) then
    zb (f7_nextToken I) fun p4 =>
    zb (rc 2 l1 p4) fun p6 =>
    zb (f7_put (-17 : Int32) p6) fun p8 =>
    f7_readTerm_L7 rc q l1 (l2 + (1 : Int32)) p8
    else
    some (I)
    else
    some (I)
def f7_readTerm  (rc : Nat → Int32 → zMI → Option zMI) (l1 : Int32) (I : zMI) : Option (zMI) :=
    zb (rc 2 l1 I) fun p10 =>
    f7_readTerm_L7 rc zF l1 (0 : Int32) p10
def f7_readSum_B32  (rc : Nat → Int32 → zMI → Option zMI) (k7 : Int32 → Int32 → zMI → Option (zMI)) (l1 : Int32) (l2 : Int32) (I : zMI) : Option (zMI) :=
    if (I 37 6) = (-1 : Int32) then
    zl (if (I 37 3) = (43 : Int32) then
    ((-15 : Int32))
    else
    ((-16 : Int32))) fun x3 =>
    zb (f7_nextToken I) fun p5 =>
    zb (f7_readTerm rc l1 p5) fun p7 =>
    zb (f7_put x3 p7) fun p9 =>
    k7 l1 (l2 + (1 : Int32)) p9
    else
    some (I)
def f7_readSum_L7  (rc : Nat → Int32 → zMI → Option zMI)  : Nat → Int32 → Int32 → zMI → Option (zMI)
  | 0, _, _, _ => none
  | q + 1, l1, l2, I =>
    if (160 : Int32) ≤ l2 then
    some (I)
    else
    if (I 37 3) = (43 : Int32) then
    f7_readSum_B32 rc (f7_readSum_L7 rc q) l1 l2 I
    else
    if (I 37 3) = (45 : Int32) then
    f7_readSum_B32 rc (f7_readSum_L7 rc q) l1 l2 I
    else
    some (I)
def f7_readSum  (rc : Nat → Int32 → zMI → Option zMI) (l1 : Int32) (I : zMI) : Option (zMI) :=
    zb (f7_readTerm rc l1 I) fun p15 =>
    f7_readSum_L7 rc zF l1 (0 : Int32) p15
def f7_readNot_B58  (rc : Nat → Int32 → zMI → Option zMI)  (l1 : Int32) (I : zMI) : Option (zMI) :=
    zl (if (I 37 3) = (60 : Int32) then
    ((-13 : Int32))
    else
    ((-14 : Int32))) fun x2 =>
    zb (f7_nextToken I) fun p4 =>
    zb (f7_readSum rc l1 p4) fun p6 =>
    zb (f7_put x2 p6) fun p8 =>
    some (p8)
def f7_readNot  (rc : Nat → Int32 → zMI → Option zMI) (l1 : Int32) (I : zMI) : Option (zMI) :=
    if (I 37 3) = (9 : Int32) then
    zb (f7_mayOpen l1 I) fun p16 =>
    if p16.1 = (0 : Int32) then
    some (p16.2)
    else
    zb (f7_nextToken p16.2) fun p19 =>
    zb (rc 1 (l1 + (1 : Int32)) p19) fun p21 =>
    zb (f7_put (-21 : Int32) p21) fun p23 =>
    some (p23)
    else
    zb (f7_readSum rc l1 I) fun p12 =>
    if (p12 37 3) = (60 : Int32) then
    f7_readNot_B58 rc l1 p12
    else
    if (p12 37 3) = (61 : Int32) then
    f7_readNot_B58 rc l1 p12
    else
    some (p12)
def f7_readAnd_L7  (rc : Nat → Int32 → zMI → Option zMI)  : Nat → Int32 → Int32 → zMI → Option (zMI)
  | 0, _, _, _ => none
  | q + 1, l1, l2, I =>
    if (160 : Int32) ≤ l2 then
    some (I)
    else
    if (I 37 3) = (8 : Int32) then
    if (I 37 6) = (-1 : Int32) then
    zb (f7_nextToken I) fun p4 =>
    zb (rc 1 l1 p4) fun p6 =>
    zb (f7_put (-12 : Int32) p6) fun p8 =>
    f7_readAnd_L7 rc q l1 (l2 + (1 : Int32)) p8
    else
    some (I)
    else
    some (I)
def f7_readAnd  (rc : Nat → Int32 → zMI → Option zMI) (l1 : Int32) (I : zMI) : Option (zMI) :=
    zb (rc 1 l1 I) fun p10 =>
    f7_readAnd_L7 rc zF l1 (0 : Int32) p10
def f7_readOr_L7  (rc : Nat → Int32 → zMI → Option zMI)  : Nat → Int32 → Int32 → zMI → Option (zMI)
  | 0, _, _, _ => none
  | q + 1, l1, l2, I =>
    if (160 : Int32) ≤ l2 then
    some (I)
    else
    if (I 37 3) = (7 : Int32) then
    if (I 37 6) = (-1 : Int32) then
    zb (f7_nextToken I) fun p4 =>
    zb (f7_readAnd rc l1 p4) fun p6 =>
    zb (f7_put (-11 : Int32) p6) fun p8 =>
    f7_readOr_L7 rc q l1 (l2 + (1 : Int32)) p8
    else
    some (I)
    else
    some (I)
def f7_readOr  (rc : Nat → Int32 → zMI → Option zMI) (l1 : Int32) (I : zMI) : Option (zMI) :=
    zb (f7_readAnd rc l1 I) fun p10 =>
    f7_readOr_L7 rc zF l1 (0 : Int32) p10
def fP : Nat → Nat → Int32 → zMI → Option zMI
  | 0, _, _, _ => none
  | q + 1, k, o, I => match k with
    | 0 => f7_readOr (fP q) o I
    | 1 => f7_readNot (fP q) o I
    | _ => f7_readOne (fP q) o I
def f7_readPart_B19    (l2 : Int32) (I : zMI) : Option (zMI) :=
    zb (f7_expect l2 I) fun p1 =>
    zb (f7_readOr (fP 20) (0 : Int32) p1) fun p3 =>
    zb (f7_expect (59 : Int32) p3) fun p5 =>
    some (p5)
def f7_readPart   (l1 : Int32) (l2 : Int32) (I : zMI) : Option (zMI) :=
    if l1 < (0 : Int32) then
    f7_readPart_B19 l2 I
    else
    if (3 : Int32) ≤ l1 then
    f7_readPart_B19 l2 I
    else
    if zib l1 4 = true then
    zl (uI I 40 l1.toNatClampNeg (I 37 8)) fun J10 =>
    f7_readPart_B19 l2 J10
    else none
def f7_read    (I : zMI) : Option (Int32 × zMI) :=
    zl (uI I 37 2 (0 : Int32)) fun J1 =>
    zl (uI J1 37 6 (-1 : Int32)) fun J3 =>
    zl (uI J3 37 8 (0 : Int32)) fun J5 =>
    zb (f7_nextToken J5) fun p7 =>
    zb (f7_readPart (0 : Int32) (4 : Int32) p7) fun p9 =>
    zb (f7_readPart (1 : Int32) (5 : Int32) p9) fun p11 =>
    zb (f7_readPart (2 : Int32) (6 : Int32) p11) fun p13 =>
    if zib (3 : Int32) 4 = true then
    zl (uI p13 40 (3 : Int32).toNatClampNeg (p13 37 8)) fun J16 =>
    if (J16 37 3) = (0 : Int32) then
    some ((J16 37 6), J16)
    else
    zb (f7_fail J16) fun p19 =>
    some ((p19 37 6), p19)
    else none
def f11_count (I : zMI)  (l1 : Int32)  : Option (Int32) :=
    if l1 = (0 : Int32) then
    some ((I 32 4))
    else
    if l1 = (1 : Int32) then
    some ((I 32 2))
    else
    if l1 = (2 : Int32) then
    some ((I 32 6))
    else
    if l1 = (3 : Int32) then
    some ((I 32 7))
    else
    if l1 = (4 : Int32) then
    some ((I 37 1))
    else
    some ((-2 : Int32))
def f11_changeWant   (l1 : Int32) (I : zMI) : Option (Int32 × zMI) :=
    if l1 < (1 : Int32) then
    some ((-7 : Int32), I)
    else
    if l1 ≤ (200 : Int32) then
    zl (uI I 32 2 l1) fun J3 =>
    some ((I 32 2), J3)
    else
    some ((-7 : Int32), I)
def f11_noHeap   (l0 : Int32)  : Option (Int32) :=
    zl (if l0 < (0 : Int32) then
    ((1 : Int32))
    else
    if l0 < (9 : Int32) then
    ((0 : Int32))
    else
    ((1 : Int32))) fun x3 =>
    if zbB x3 = true then
    some (x3)
    else none
def f11_set_B71 (n : Nat) (kd : zMK)   (l2 : Int32) (l3 : Int32) (s0 : Nat) (I : zMI) : Option (Int32 × zMI) :=
    if zKdB n kd s0 0 = true then
    if zib l2 ((kd s0).2) = true then
    zl (uI I s0 l2.toNatClampNeg l3) fun J3 =>
    some ((I s0 l2.toNatClampNeg), J3)
    else none
    else none
def f11_set (n : Nat) (kd : zMK)  (l1 : Int32) (l2 : Int32) (l3 : Int32) (I : zMI) : Option (Int32 × zMI) :=
    if l1 < (0 : Int32) then
    some ((-5 : Int32), I)
    else
    if l1 ≤ (2 : Int32) then
    if l1 = (2 : Int32) then
    zb (f11_changeWant l3 I) fun p18 =>
    some (p18.1, p18.2)
    else
    zb (f11_noHeap l2) fun p8 =>
    if p8 = (0 : Int32) then
    if l3 < (0 : Int32) then
    some ((-7 : Int32), I)
    else
    zl (if l1 = (0 : Int32) then
    ((200 : Int32))
    else
    ((9 : Int32))) fun x13 =>
    if l3 ≤ x13 then
    if l1 = (0 : Int32) then
    f11_set_B71 n kd l2 l3 33 I
    else
    f11_set_B71 n kd l2 l3 34 I
    else
    some ((-7 : Int32), I)
    else
    some ((-6 : Int32), I)
    else
    some ((-5 : Int32), I)
def f11_heap (I : zMI)  (l1 : Int32) (l2 : Int32)  : Option (Int32) :=
    zb (f11_noHeap l1) fun p1 =>
    if p1 = (0 : Int32) then
    if l2 < (0 : Int32) then
    some ((-7 : Int32))
    else
    if l2 ≤ (1 : Int32) then
    zb (if l2 = (0 : Int32) then
    if zib l1 9 = true then
    some ((I 33 l1.toNatClampNeg))
    else none
    else
    if zib l1 9 = true then
    some ((I 34 l1.toNatClampNeg))
    else none) fun x9 =>
    some (x9)
    else
    some ((-7 : Int32))
    else
    some ((-6 : Int32))
def f11_noByte   (l0 : Int32)  : Option (Int32) :=
    zl (if l0 < (0 : Int32) then
    ((1 : Int32))
    else
    if l0 ≤ (255 : Int32) then
    ((0 : Int32))
    else
    ((1 : Int32))) fun x3 =>
    if zbB x3 = true then
    some (x3)
    else none
def f11_feed_B118    (l1 : Int32) (l6 : Int32) (I : zMI) : Option (Int32 × zMI) :=
    if l1 ≤ (4 : Int32) then
    some ((I 37 1), I)
    else
    zb (f7_add l6 I) fun p2 =>
    some ((p2 37 1), p2)
def f11_feed_B104    (l1 : Int32) (l5 : Int32) (l6 : Int32) (I : zMI) : Option (Int32 × zMI) :=
    if l1 ≤ (3 : Int32) then
    f11_feed_B118 l1 l6 I
    else
    zb (f7_add l5 I) fun p5 =>
    f11_feed_B118 l1 l6 p5
def f11_feed_B90    (l1 : Int32) (l4 : Int32) (l5 : Int32) (l6 : Int32) (I : zMI) : Option (Int32 × zMI) :=
    if l1 ≤ (2 : Int32) then
    f11_feed_B104 l1 l5 l6 I
    else
    zb (f7_add l4 I) fun p8 =>
    f11_feed_B104 l1 l5 l6 p8
def f11_feed   (l1 : Int32) (l2 : Int32) (l3 : Int32) (l4 : Int32) (l5 : Int32) (l6 : Int32) (I : zMI) : Option (Int32 × zMI) :=
    if l1 < (1 : Int32) then
    some ((-2 : Int32), I)
    else
    if (5 : Int32) < l1 then
    some ((-2 : Int32), I)
    else
    zb (f11_noByte l2) fun p12 =>
    if p12 = (0 : Int32) then
    zb (f11_noByte l3) fun p15 =>
    if p15 = (0 : Int32) then
    zb (f11_noByte l4) fun p18 =>
    if p18 = (0 : Int32) then
    zb (f11_noByte l5) fun p21 =>
    if p21 = (0 : Int32) then
    zb (f11_noByte l6) fun p24 =>
    if p24 = (0 : Int32) then
    if l1 ≤ ((160 : Int32) - (I 37 1)) then
    zb (f7_add l2 I) fun p28 =>
    if l1 ≤ (1 : Int32) then
    f11_feed_B90 l1 l4 l5 l6 p28
    else
    zb (f7_add l3 p28) fun p31 =>
    f11_feed_B90 l1 l4 l5 l6 p31
    else
    some ((-4 : Int32), I)
    else
    some ((-2 : Int32), I)
    else
    some ((-2 : Int32), I)
    else
    some ((-2 : Int32), I)
    else
    some ((-2 : Int32), I)
    else
    some ((-2 : Int32), I)
def f11_force   (l1 : Int32) (I : zMI) : Option (Int32 × zMI) :=
    if l1 < (0 : Int32) then
    some ((-2 : Int32), I)
    else
    if l1 < (I 32 6) then
    zl (uI I 32 7 l1) fun J3 =>
    some ((I 32 7), J3)
    else
    some ((-2 : Int32), I)
def f11_walkerOf (I : zMI) (R : zMR)  (l1 : Int32)  : Option (Option Nat) :=
    if l1 < (0 : Int32) then
    some (none)
    else
    if (I 32 4) ≤ l1 then
    some (none)
    else
    if (5 : Int32) ≤ l1 then
    some (none)
    else
    if zib l1 5 = true then
    some ((R 35 l1.toNatClampNeg))
    else none
def f11_textOf (I : zMI) (R : zMR)  (l1 : Int32)  : Option (Option Nat) :=
    if l1 < (0 : Int32) then
    some (none)
    else
    if (I 32 6) ≤ l1 then
    some (none)
    else
    if (6 : Int32) ≤ l1 then
    some (none)
    else
    if zib l1 6 = true then
    some ((R 36 l1.toNatClampNeg))
    else none
def f11_asks (n : Nat) (kd : zMK) (R : zMR)  (l1 : Int32) (l2 : Int32) (l3 : Int32) (I : zMI) : Option (Int32 × zMI) :=
    zb (fJ9_floorDiv_7cf53 l2 (1000 : Int32)) fun p1 =>
    zb (fJ9_floorMod_7cf53 l2 (1000 : Int32)) fun p3 =>
    zb (fJ9_floorDiv_7cf53 l3 (1000 : Int32)) fun p5 =>
    zb (f11_walkerOf I R p5) fun p7 =>
    zb (fJ9_floorMod_7cf53 l3 (1000 : Int32)) fun p9 =>
    zb (f11_textOf I R (I 32 7)) fun p11 =>
    if l1 < (0 : Int32) then
    some ((-2 : Int32), I)
    else
    if (2 : Int32) < l1 then
    some ((-2 : Int32), I)
    else
    zb (f11_noHeap p1) fun p15 =>
    if p15 = (0 : Int32) then
    if (200 : Int32) < p3 then
    some ((-2 : Int32), I)
    else
    zm p7
    (some ((-2 : Int32), I))
    fun a19 =>
    zm p11
    (some ((-2 : Int32), I))
    fun a21 =>
    if zKdB n kd a21 19 = true then
    zb (f3_says n kd R a21 l1 (some a19) p1 p3 p9 (I 32 4) I) fun p24 =>
    some (p24.1, p24.2)
    else none
    else
    some ((-2 : Int32), I)
def f11_begin (n : Nat) (kd : zMK) (R : zMR)  (l1 : Int32) (l2 : Int32) (I : zMI) : Option (Int32 × zMI) :=
    zb (f11_walkerOf I R l1) fun p1 =>
    zm p1
    (some ((-5 : Int32), I))
    fun a3 =>
    zb (f11_noHeap l2) fun p5 =>
    if p5 = (0 : Int32) then
    if zWkB n kd a3 = true then
    zl (uI I a3 2 l2) fun J9 =>
    some ((I a3 2), J9)
    else none
    else
    some ((-7 : Int32), I)
def f11_told (n : Nat) (kd : zMK) (I : zMI) (R : zMR)  (l1 : Int32) (l2 : Int32)  : Option (Int32) :=
    zb (f11_walkerOf I R l1) fun p1 =>
    zm p1
    (some ((-5 : Int32)))
    fun a3 =>
    if l2 = (0 : Int32) then
    if zWkB n kd a3 = true then
    zb (fv_kind n kd I a3) fun p7 =>
    some (p7)
    else none
    else
    if l2 = (1 : Int32) then
    if zWkB n kd a3 = true then
    some ((I a3 1))
    else none
    else
    if l2 = (2 : Int32) then
    if zWkB n kd a3 = true then
    some ((I a3 2))
    else none
    else
    if l2 = (3 : Int32) then
    if zWkB n kd a3 = true then
    zb (fv_waits n kd I a3) fun p15 =>
    zl (if p15 = (0 : Int32) then
    ((0 : Int32))
    else
    ((1 : Int32))) fun x18 =>
    some (x18)
    else none
    else
    some ((-7 : Int32))
def f11_noSeconds   (l0 : Int32)  : Option (Int32) :=
    zl (if l0 < (0 : Int32) then
    ((1 : Int32))
    else
    if l0 ≤ (600 : Int32) then
    ((0 : Int32))
    else
    ((1 : Int32))) fun x3 =>
    if zbB x3 = true then
    some (x3)
    else none
def f11_layHeaps (n : Nat) (kd : zMK)   (I : zMI) (R : zMR) : Option (zMI × zMR) :=
    zb (f11_textOf I R (I 32 7)) fun p1 =>
    zb (f0_lay n kd 33 34 p1 (I 32 2) (I 32 4) I R) fun p3 =>
    some (p3.1, p3.2)
def f11_layWithout_B31 (n : Nat) (kd : zMK)  (k6 : Int32 → Int32 → zMI → zMR → Option (zMI × zMR)) (l1 : Int32) (l2 : Int32) (I : zMI) (R : zMR) : Option (zMI × zMR) :=
    k6 l1 (l2 + (1 : Int32)) I R
def f11_layWithout_L6 (n : Nat) (kd : zMK)   : Nat → Int32 → Int32 → zMI → zMR → Option (zMI × zMR)
  | 0, _, _, _, _ => none
  | q + 1, l1, l2, I, R =>
    if (I 32 4) ≤ l2 then
    some (I, R)
    else
    if l2 = l1 then
    f11_layWithout_B31 n kd (f11_layWithout_L6 n kd q) l1 l2 I R
    else
    zb (f11_walkerOf I R l2) fun p3 =>
    zb (f0_join n kd p3 I R) fun p5 =>
    f11_layWithout_B31 n kd (f11_layWithout_L6 n kd q) l1 l2 p5.1 p5.2
def f11_layWithout (n : Nat) (kd : zMK)  (l1 : Int32) (I : zMI) (R : zMR) : Option (zMI × zMR) :=
    zb (f11_layHeaps n kd I R) fun p7 =>
    f11_layWithout_L6 n kd zF l1 (0 : Int32) p7.1 p7.2
def f11_layPlain (n : Nat) (kd : zMK)   (I : zMI) (R : zMR) : Option (zMI × zMR) :=
    zb (f11_layWithout n kd (-1 : Int32) I R) fun p1 =>
    some (p1.1, p1.2)
def f11_run (n : Nat) (kd : zMK)  (l1 : Int32) (l2 : Int32) (I : zMI) (R : zMR) : Option (Int32 × zMI × zMR) :=
    zb (f11_noSeconds l1) fun p1 =>
    if p1 = (0 : Int32) then
    if l2 < (0 : Int32) then
    some ((-2 : Int32), I, R)
    else
    if l2 ≤ (4 : Int32) then
    zb (f11_layPlain n kd I R) fun p6 =>
    zb (f0_pass n kd p6.2 l1 p6.1) fun p8 =>
    if l2 = (0 : Int32) then
    some ((p8 42 9), p8, p6.2)
    else
    if l2 = (1 : Int32) then
    some ((p8 42 10), p8, p6.2)
    else
    if l2 = (2 : Int32) then
    some ((p8 42 11), p8, p6.2)
    else
    if l2 = (3 : Int32) then
    zb (f0_badness n kd p6.2 p8) fun p14 =>
    some (p14.1, p14.2, p6.2)
    else
    some ((p8 42 12), p8, p6.2)
    else
    some ((-2 : Int32), I, R)
    else
    some ((-2 : Int32), I, R)
def f11_one (n : Nat) (kd : zMK)  (l1 : Int32) (l2 : Int32) (l3 : Int32) (I : zMI) (R : zMR) : Option (Int32 × zMI × zMR) :=
    zb (f11_walkerOf I R l1) fun p1 =>
    zm p1
    (some ((-5 : Int32), I, R))
    fun a3 =>
    zb (f11_noSeconds l2) fun p5 =>
    if p5 = (0 : Int32) then
    if l3 < (0 : Int32) then
    some ((-7 : Int32), I, R)
    else
    if l3 ≤ (4 : Int32) then
    zb (f11_layPlain n kd I R) fun p10 =>
    zb (f0_pass n kd p10.2 l2 p10.1) fun p12 =>
    if l3 = (0 : Int32) then
    if zWkB n kd a3 = true then
    some ((p12 a3 3), p12, p10.2)
    else none
    else
    if l3 = (1 : Int32) then
    if zWkB n kd a3 = true then
    some ((p12 a3 4), p12, p10.2)
    else none
    else
    if l3 = (2 : Int32) then
    if zWkB n kd a3 = true then
    some ((p12 a3 6), p12, p10.2)
    else none
    else
    if l3 = (3 : Int32) then
    if zWkB n kd a3 = true then
    some ((p12 a3 7), p12, p10.2)
    else none
    else
    if zWkB n kd a3 = true then
    some ((p12 a3 8), p12, p10.2)
    else none
    else
    some ((-7 : Int32), I, R)
    else
    some ((-7 : Int32), I, R)
def f11_height (n : Nat) (kd : zMK)  (l1 : Int32) (l2 : Int32) (l3 : Int32) (I : zMI) (R : zMR) : Option (Int32 × zMI × zMR) :=
    zb (f11_noHeap l1) fun p1 =>
    if p1 = (0 : Int32) then
    zb (f11_noSeconds l2) fun p4 =>
    if p4 = (0 : Int32) then
    if l3 < (0 : Int32) then
    some ((-7 : Int32), I, R)
    else
    if l3 ≤ (1 : Int32) then
    zb (f11_layPlain n kd I R) fun p9 =>
    zb (f0_pass n kd p9.2 l2 p9.1) fun p11 =>
    if l3 = (0 : Int32) then
    zb (f0_heapAt l1) fun p17 =>
    if zHpB p17 = true then
    some ((p11 p17 1), p11, p9.2)
    else none
    else
    zb (f0_heapAt l1) fun p14 =>
    if zHpB p14 = true then
    some ((p11 p14 5), p11, p9.2)
    else none
    else
    some ((-7 : Int32), I, R)
    else
    some ((-7 : Int32), I, R)
    else
    some ((-6 : Int32), I, R)
def f11_go_L24 (n : Nat) (kd : zMK)   : Nat → Int32 → zMI → zMR → Option (Int32 × zMI × zMR)
  | 0, _, _, _ => none
  | q + 1, l2, I, R =>
    if (9 : Int32) ≤ l2 then
    some ((I 42 9), I, R)
    else
    zb (f0_heapAt l2) fun p2 =>
    if zHpB p2 = true then
    if zib l2 9 = true then
    zl (uI I 33 l2.toNatClampNeg (I p2 1)) fun J6 =>
    f11_go_L24 n kd q (l2 + (1 : Int32)) J6 R
    else none
    else none
def f11_go (n : Nat) (kd : zMK)  (l1 : Int32) (I : zMI) (R : zMR) : Option (Int32 × zMI × zMR) :=
    zb (f11_noSeconds l1) fun p8 =>
    if p8 = (0 : Int32) then
    zb (f11_layPlain n kd I R) fun p11 =>
    zb (f0_pass n kd p11.2 l1 p11.1) fun p13 =>
    f11_go_L24 n kd zF (0 : Int32) p13 p11.2
    else
    some ((-2 : Int32), I, R)
def f11_off (n : Nat) (kd : zMK)  (l1 : Int32) (I : zMI) (R : zMR) : Option (Int32 × zMI × zMR) :=
    if l1 < (0 : Int32) then
    some ((-2 : Int32), I, R)
    else
    if l1 < (40 : Int32) then
    zb (f11_layPlain n kd I R) fun p3 =>
    zb (f0_pass n kd p3.2 (600 : Int32) p3.1) fun p5 =>
    zb (f0_offAt p5 l1) fun p7 =>
    some (p7, p5, p3.2)
    else
    some ((-2 : Int32), I, R)
def f11_find (n : Nat) (kd : zMK)  (l1 : Int32) (l2 : Int32) (I : zMI) (R : zMR) : Option (Int32 × zMI × zMR) :=
    zb (f11_noSeconds l1) fun p1 =>
    if p1 = (0 : Int32) then
    if l2 < (0 : Int32) then
    some ((-2 : Int32), I, R)
    else
    if l2 ≤ (1 : Int32) then
    zb (f11_layPlain n kd I R) fun p6 =>
    zb (f0_pass n kd p6.2 l1 p6.1) fun p8 =>
    if (p8 42 8) = (0 : Int32) then
    some ((0 : Int32), p8, p6.2)
    else
    if l2 = (0 : Int32) then
    zb (f0_offAt p8 (0 : Int32)) fun p14 =>
    some (((p8 42 9) - p14), p8, p6.2)
    else
    zb (f0_offAt p8 ((p8 42 8) - (1 : Int32))) fun p12 =>
    some ((p12 + (1 : Int32)), p8, p6.2)
    else
    some ((-2 : Int32), I, R)
    else
    some ((-2 : Int32), I, R)
def f11_orderByNumbers_L2    : Nat → Int32 → zMI → Option (zMI)
  | 0, _, _ => none
  | q + 1, l1, I =>
    if (5 : Int32) ≤ l1 then
    some (I)
    else
    if zib l1 5 = true then
    zl (uI I 55 l1.toNatClampNeg l1) fun J3 =>
    f11_orderByNumbers_L2  q (l1 + (1 : Int32)) J3
    else none
def f11_orderByNumbers    (I : zMI) : Option (zMI) :=
    f11_orderByNumbers_L2 zF (0 : Int32) I
def f11_layByOrder_L6 (n : Nat) (kd : zMK)   : Nat → Int32 → zMI → zMR → Option (zMI × zMR)
  | 0, _, _, _ => none
  | q + 1, l1, I, R =>
    if (I 32 4) ≤ l1 then
    some (I, R)
    else
    if (5 : Int32) ≤ l1 then
    some (I, R)
    else
    if zib l1 5 = true then
    zb (f11_walkerOf I R (I 55 l1.toNatClampNeg)) fun p4 =>
    zb (f0_join n kd p4 I R) fun p6 =>
    f11_layByOrder_L6 n kd q (l1 + (1 : Int32)) p6.1 p6.2
    else none
def f11_layByOrder (n : Nat) (kd : zMK)   (I : zMI) (R : zMR) : Option (zMI × zMR) :=
    zb (f11_layHeaps n kd I R) fun p8 =>
    f11_layByOrder_L6 n kd zF (0 : Int32) p8.1 p8.2
def f11_orderAsDigits_L4 (I : zMI)   : Nat → Int32 → Int32 → Option (Int32)
  | 0, _, _ => none
  | q + 1, l1, l2 =>
    if (I 32 4) ≤ l2 then
    some (l1)
    else
    if (5 : Int32) ≤ l2 then
    some (l1)
    else
    if zib l2 5 = true then
    zl (((l1 * (10 : Int32)) + (I 55 l2.toNatClampNeg)) + (1 : Int32)) fun x4 =>
    f11_orderAsDigits_L4 I q x4 (l2 + (1 : Int32))
    else none
def f11_orderAsDigits (I : zMI)    : Option (Int32) :=
    f11_orderAsDigits_L4 I zF (0 : Int32) (0 : Int32)
def f11_swapInOrder   (l1 : Int32) (l2 : Int32) (I : zMI) : Option (zMI) :=
    if l1 < (0 : Int32) then
    some (I)
    else
    if (5 : Int32) ≤ l1 then
    some (I)
    else
    if l2 < (0 : Int32) then
    some (I)
    else
    if (5 : Int32) ≤ l2 then
    some (I)
    else
    if zib l1 5 = true then
    if zib l2 5 = true then
    zl (uI I 55 l1.toNatClampNeg (I 55 l2.toNatClampNeg)) fun J7 =>
    zl (uI J7 55 l2.toNatClampNeg (I 55 l1.toNatClampNeg)) fun J9 =>
    some (J9)
    else none
    else none
def f11_nextOrder_L15   (k36 : Int32 → Int32 → zMI → Option (Int32 × zMI)) (k45 : Int32 → Int32 → zMI → Option (Int32 × zMI)) : Nat → Int32 → Int32 → zMI → Option (Int32 × zMI)
  | 0, _, _, _ => none
  | q + 1, l1, l2, I =>
    if l2 < (0 : Int32) then
    k45 l1 l2 I
    else
    if zib l2 5 = true then
    if zib (l2 + (1 : Int32)) 5 = true then
    if (I 55 (l2 + (1 : Int32)).toNatClampNeg) ≤ (I 55 l2.toNatClampNeg) then
    f11_nextOrder_L15 k36 k45 q l1 (l2 + (-1 : Int32)) I
    else
    k36 l1 l2 I
    else none
    else none
def f11_nextOrder_L53   (k75 : Int32 → Int32 → Int32 → zMI → Option (Int32 × zMI)) (k84 : Int32 → Int32 → Int32 → zMI → Option (Int32 × zMI)) : Nat → Int32 → Int32 → Int32 → zMI → Option (Int32 × zMI)
  | 0, _, _, _, _ => none
  | q + 1, l1, l2, l3, I =>
    if l3 ≤ (l2 + (1 : Int32)) then
    k84 l1 l2 l3 I
    else
    if zib l3 5 = true then
    if zib l2 5 = true then
    if (I 55 l3.toNatClampNeg) ≤ (I 55 l2.toNatClampNeg) then
    f11_nextOrder_L53 k75 k84 q l1 l2 (l3 + (-1 : Int32)) I
    else
    k75 l1 l2 l3 I
    else none
    else none
def f11_nextOrder_L98    : Nat → Int32 → Int32 → zMI → Option (Int32 × zMI)
  | 0, _, _, _ => none
  | q + 1, l4, l5, I =>
    if l5 ≤ l4 then
    some ((1 : Int32), I)
    else
    zb (f11_swapInOrder l4 l5 I) fun p10 =>
    f11_nextOrder_L98  q (l4 + (1 : Int32)) (l5 + (-1 : Int32)) p10
def f11_nextOrder_B84    (l1 : Int32) (l2 : Int32) (l3 : Int32) (I : zMI) : Option (Int32 × zMI) :=
    zb (f11_swapInOrder l2 l3 I) fun p12 =>
    f11_nextOrder_L98 zF (l2 + (1 : Int32)) l1 p12
def f11_nextOrder_B75    (l1 : Int32) (l2 : Int32) (l3 : Int32) (I : zMI) : Option (Int32 × zMI) :=
    f11_nextOrder_B84 l1 l2 l3 I
def f11_nextOrder_B45    (l1 : Int32) (l2 : Int32) (I : zMI) : Option (Int32 × zMI) :=
    if (0 : Int32) ≤ l2 then
    f11_nextOrder_L53 (f11_nextOrder_B75) (f11_nextOrder_B84) zF l1 l2 l1 I
    else
    some ((0 : Int32), I)
def f11_nextOrder_B36    (l1 : Int32) (l2 : Int32) (I : zMI) : Option (Int32 × zMI) :=
    f11_nextOrder_B45 l1 l2 I
def f11_nextOrder    (I : zMI) : Option (Int32 × zMI) :=
    zl (if (5 : Int32) < (I 32 4) then (5 : Int32) else (I 32 4)) fun x15 =>
    zl ((x15 - (1 : Int32)) - (1 : Int32)) fun x17 =>
    f11_nextOrder_L15 (f11_nextOrder_B36) (f11_nextOrder_B45) zF (x15 - (1 : Int32)) x17 I
def f11_best_B169 (n : Nat) (kd : zMK)  (k30 : Int32 → Int32 → Int32 → Int32 → Int32 → Int32 → zMI → zMR → Option (Int32 × zMI × zMR)) (l1 : Int32) (l2 : Int32) (l3 : Int32) (l4 : Int32) (l6 : Int32) (I : zMI) (R : zMR) : Option (Int32 × zMI × zMR) :=
    zb (f11_nextOrder I) fun p1 =>
    k30 l1 l2 l3 l4 p1.1 (l6 + (1 : Int32)) p1.2 R
def f11_best_B152 (n : Nat) (kd : zMK)  (k30 : Int32 → Int32 → Int32 → Int32 → Int32 → Int32 → zMI → zMR → Option (Int32 × zMI × zMR)) (l1 : Int32) (l6 : Int32) (l8 : Int32) (I : zMI) (R : zMR) : Option (Int32 × zMI × zMR) :=
    zb (f11_orderAsDigits I) fun p3 =>
    f11_best_B169 n kd k30 l1 l8 (I 42 9) p3 l6 I R
def f11_best_B133 (n : Nat) (kd : zMK)  (k30 : Int32 → Int32 → Int32 → Int32 → Int32 → Int32 → zMI → zMR → Option (Int32 × zMI × zMR)) (l1 : Int32) (l2 : Int32) (l3 : Int32) (l4 : Int32) (l6 : Int32) (s0 : Int32) (I : zMI) (R : zMR) : Option (Int32 × zMI × zMR) :=
    if s0 < l2 then
    f11_best_B152 n kd k30 l1 l6 s0 I R
    else
    if (I 42 9) ≤ l3 then
    f11_best_B169 n kd k30 l1 l2 l3 l4 l6 I R
    else
    f11_best_B152 n kd k30 l1 l6 s0 I R
def f11_best_B89 (n : Nat) (kd : zMK)  (k30 : Int32 → Int32 → Int32 → Int32 → Int32 → Int32 → zMI → zMR → Option (Int32 × zMI × zMR)) (l1 : Int32) (l2 : Int32) (l3 : Int32) (l4 : Int32) (l6 : Int32) (l7 : Int32) (s0 : Int32) (I : zMI) (R : zMR) : Option (Int32 × zMI × zMR) :=
    if l2 < s0 then
    f11_best_B169 n kd k30 l1 l2 l3 l4 l6 I R
    else
    zb (f0_pass n kd R ((600 : Int32) - l7) I) fun p8 =>
    if (p8 42 12) = (-1 : Int32) then
    f11_best_B133 n kd k30 l1 l2 l3 l4 l6 (1000000 : Int32) p8 R
    else
    f11_best_B133 n kd k30 l1 l2 l3 l4 l6 (p8 42 12) p8 R
def f11_best_L30 (n : Nat) (kd : zMK)  (k181 : Int32 → Int32 → Int32 → Int32 → zMI → zMR → Option (Int32 × zMI × zMR)) : Nat → Int32 → Int32 → Int32 → Int32 → Int32 → Int32 → zMI → zMR → Option (Int32 × zMI × zMR)
  | 0, _, _, _, _, _, _, _, _ => none
  | q + 1, l1, l2, l3, l4, l5, l6, I, R =>
    if (120 : Int32) ≤ l6 then
    k181 l1 l2 l3 l4 I R
    else
    if l5 = (0 : Int32) then
    k181 l1 l2 l3 l4 I R
    else
    zb (f11_layByOrder n kd I R) fun p13 =>
    zl (if (600 : Int32) < (l2 + (1 : Int32)) then (600 : Int32) else (l2 + (1 : Int32))) fun x15 =>
    zb (f0_pass n kd p13.2 x15 p13.1) fun p17 =>
    if (p17 42 12) = (-1 : Int32) then
    f11_best_B89 n kd (f11_best_L30 n kd k181 q) l1 l2 l3 l4 l6 x15 (1000000 : Int32) p17 p13.2
    else
    f11_best_B89 n kd (f11_best_L30 n kd k181 q) l1 l2 l3 l4 l6 x15 (p17 42 12) p17 p13.2
def f11_best_B181 (n : Nat) (kd : zMK)   (l1 : Int32) (l2 : Int32) (l3 : Int32) (l4 : Int32) (I : zMI) (R : zMR) : Option (Int32 × zMI × zMR) :=
    if l1 = (0 : Int32) then
    zl (if l2 = (1000000 : Int32) then
    ((-1 : Int32))
    else
    (l2)) fun x26 =>
    some (x26, I, R)
    else
    zl (if l1 = (1 : Int32) then
    (l3)
    else
    (l4)) fun x22 =>
    some (x22, I, R)
def f11_best (n : Nat) (kd : zMK)  (l1 : Int32) (I : zMI) (R : zMR) : Option (Int32 × zMI × zMR) :=
    if l1 < (0 : Int32) then
    some ((-2 : Int32), I, R)
    else
    if l1 ≤ (2 : Int32) then
    zb (f11_orderByNumbers I) fun p31 =>
    f11_best_L30 n kd (f11_best_B181 n kd) zF l1 (1000000 : Int32) (-1 : Int32) (0 : Int32) (1 : Int32) (0 : Int32) p31 R
    else
    some ((-2 : Int32), I, R)
def f11_start_B86 (n : Nat) (kd : zMK)  (k34 : Int32 → Option Nat → Int32 → Int32 → Int32 → zMI → zMR → Option (Int32 × zMI × zMR)) (l2 : Int32) (l3 : Option Nat) (l4 : Int32) (l5 : Int32) (l6 : Int32) (I : zMI) (R : zMR) : Option (Int32 × zMI × zMR) :=
    k34 l2 l3 l4 l5 (l6 + (1 : Int32)) I R
def f11_start_L34 (n : Nat) (kd : zMK)  (k92 : Int32 → Int32 → Int32 → zMI → zMR → Option (Int32 × zMI × zMR)) : Nat → Int32 → Option Nat → Int32 → Int32 → Int32 → zMI → zMR → Option (Int32 × zMI × zMR)
  | 0, _, _, _, _, _, _, _ => none
  | q + 1, l2, l3, l4, l5, l6, I, R =>
    if (9 : Int32) ≤ l6 then
    k92 l2 l4 l5 I R
    else
    zb (f11_layPlain n kd I R) fun p2 =>
    zm l3 none fun a4 =>
    if zWkB n kd a4 = true then
    zl (uI p2.1 a4 3 l6) fun J7 =>
    zb (f0_pass n kd p2.2 (600 : Int32) J7) fun p9 =>
    if (p9 42 9) ≤ l5 then
    f11_start_B86 n kd (f11_start_L34 n kd k92 q) l2 l3 l4 l5 l6 p9 p2.2
    else
    f11_start_B86 n kd (f11_start_L34 n kd k92 q) l2 l3 l6 (p9 42 9) l6 p9 p2.2
    else none
def f11_start_B92 (n : Nat) (kd : zMK)   (l2 : Int32) (l4 : Int32) (l5 : Int32) (I : zMI) (R : zMR) : Option (Int32 × zMI × zMR) :=
    zl (if l2 = (0 : Int32) then
    (l4)
    else
    (l5)) fun x13 =>
    some (x13, I, R)
def f11_start (n : Nat) (kd : zMK)  (l1 : Int32) (l2 : Int32) (I : zMI) (R : zMR) : Option (Int32 × zMI × zMR) :=
    zb (f11_walkerOf I R l1) fun p16 =>
    zm p16
    (some ((-5 : Int32), I, R))
    fun a18 =>
    if l2 < (0 : Int32) then
    some ((-7 : Int32), I, R)
    else
    if l2 ≤ (1 : Int32) then
    f11_start_L34 n kd (f11_start_B92 n kd) zF l2 p16 (-1 : Int32) (-1 : Int32) (0 : Int32) I R
    else
    some ((-7 : Int32), I, R)
def f11_sit_B66 (n : Nat) (kd : zMK)  (k19 : Int32 → Int32 → Int32 → Int32 → zMI → zMR → Option (Int32 × zMI × zMR)) (l1 : Int32) (l2 : Int32) (l3 : Int32) (l4 : Int32) (I : zMI) (R : zMR) : Option (Int32 × zMI × zMR) :=
    k19 l1 l2 l3 (l4 + (1 : Int32)) I R
def f11_sit_L19 (n : Nat) (kd : zMK)  (k72 : Int32 → Int32 → Int32 → zMI → zMR → Option (Int32 × zMI × zMR)) : Nat → Int32 → Int32 → Int32 → Int32 → zMI → zMR → Option (Int32 × zMI × zMR)
  | 0, _, _, _, _, _, _ => none
  | q + 1, l1, l2, l3, l4, I, R =>
    if (I 32 4) ≤ l4 then
    k72 l1 l2 l3 I R
    else
    zb (f11_layWithout n kd l4 I R) fun p2 =>
    zb (f0_pass n kd p2.2 (600 : Int32) p2.1) fun p4 =>
    if (p4 42 9) ≤ l3 then
    f11_sit_B66 n kd (f11_sit_L19 n kd k72 q) l1 l2 l3 l4 p4 p2.2
    else
    f11_sit_B66 n kd (f11_sit_L19 n kd k72 q) l1 l4 (p4 42 9) l4 p4 p2.2
def f11_sit_B72 (n : Nat) (kd : zMK)   (l1 : Int32) (l2 : Int32) (l3 : Int32) (I : zMI) (R : zMR) : Option (Int32 × zMI × zMR) :=
    zl (if l1 = (0 : Int32) then
    (l2)
    else
    (l3)) fun x8 =>
    some (x8, I, R)
def f11_sit (n : Nat) (kd : zMK)  (l1 : Int32) (I : zMI) (R : zMR) : Option (Int32 × zMI × zMR) :=
    if l1 < (0 : Int32) then
    some ((-2 : Int32), I, R)
    else
    if l1 ≤ (1 : Int32) then
    f11_sit_L19 n kd (f11_sit_B72 n kd) zF l1 (-1 : Int32) (-1 : Int32) (0 : Int32) I R
    else
    some ((-2 : Int32), I, R)
def f11_worth (n : Nat) (kd : zMK)  (l1 : Int32) (I : zMI) (R : zMR) : Option (Int32 × zMI × zMR) :=
    zb (f11_walkerOf I R l1) fun p1 =>
    zm p1
    (some ((-1000 : Int32), I, R))
    fun a3 =>
    zb (f11_layPlain n kd I R) fun p5 =>
    zb (f0_pass n kd p5.2 (600 : Int32) p5.1) fun p7 =>
    zb (f11_layWithout n kd l1 p7 p5.2) fun p9 =>
    zb (f0_pass n kd p9.2 (600 : Int32) p9.1) fun p11 =>
    some (((p7 42 9) - (p11 42 9)), p11, p9.2)
def f11_more_L52 (n : Nat) (kd : zMK)  (k81 : Int32 → Int32 → Nat → zMI → zMR → Option (Int32 × zMI × zMR)) : Nat → Int32 → Int32 → Nat → Int32 → zMI → zMR → Option (Int32 × zMI × zMR)
  | 0, _, _, _, _, _, _ => none
  | q + 1, l1, l2, l3, l4, I, R =>
    if (600 : Int32) ≤ l4 then
    k81 l1 l2 l3 I R
    else
    if zHpB l3 = true then
    if (I l3 6) = (0 : Int32) then
    zb (f0_pass n kd R (1 : Int32) I) fun p4 =>
    f11_more_L52 n kd k81 q l1 l2 l3 (l4 + (1 : Int32)) p4 R
    else
    k81 l1 l2 l3 I R
    else none
def f11_more_B81 (n : Nat) (kd : zMK)  (k12 : Int32 → Int32 → zMI → zMR → Option (Int32 × zMI × zMR)) (l1 : Int32) (l2 : Int32) (l3 : Nat) (I : zMI) (R : zMR) : Option (Int32 × zMI × zMR) :=
    if zHpB l3 = true then
    if (I l3 6) = (0 : Int32) then
    some (l2, I, R)
    else
    k12 l1 (l2 + (1 : Int32)) I R
    else none
def f11_more_L12 (n : Nat) (kd : zMK)   : Nat → Int32 → Int32 → zMI → zMR → Option (Int32 × zMI × zMR)
  | 0, _, _, _, _ => none
  | q + 1, l1, l2, I, R =>
    if zib l1 9 = true then
    if ((200 : Int32) - (I 33 l1.toNatClampNeg)) < l2 then
    some ((-1 : Int32), I, R)
    else
    zb (f11_layPlain n kd I R) fun p10 =>
    zb (f0_heapAt l1) fun p12 =>
    if zHpB p12 = true then
    zl (uI p10.1 p12 1 ((p10.1 p12 1) + l2)) fun J15 =>
    f11_more_L52 n kd (f11_more_B81 n kd (f11_more_L12 n kd q)) zF l1 l2 p12 (0 : Int32) J15 p10.2
    else none
    else none
def f11_more (n : Nat) (kd : zMK)  (l1 : Int32) (I : zMI) (R : zMR) : Option (Int32 × zMI × zMR) :=
    zb (f11_noHeap l1) fun p17 =>
    if p17 = (0 : Int32) then
    f11_more_L12 n kd zF l1 (0 : Int32) I R
    else
    some ((-2 : Int32), I, R)
def f11_ownSeconds_L13 (n : Nat) (kd : zMK) (R : zMR)   : Nat → Int32 → Int32 → Option Nat → Int32 → Int32 → zMI → Option (Int32 × zMI)
  | 0, _, _, _, _, _, _ => none
  | q + 1, l2, l3, l4, l5, l6, I =>
    if (l2 + l3) ≤ l6 then
    some (l5, I)
    else
    if (9 : Int32) ≤ l6 then
    some (l5, I)
    else
    zm l4
    (some (l5, I))
    fun a3 =>
    zb (f0_heapAt l6) fun p5 =>
    zb (f0_takesOf n kd R a3 p5 (0 : Int32) I) fun p7 =>
    zb (f0_stepOf n kd R a3 p5 (0 : Int32) p7.2) fun p9 =>
    f11_ownSeconds_L13 n kd R q l2 l3 l4 (l5 + (p7.1 + p9.1)) (l6 + (1 : Int32)) p9.2
def f11_ownSeconds (n : Nat) (kd : zMK) (R : zMR)  (l1 : Int32) (l2 : Int32) (l3 : Int32) (I : zMI) : Option (Int32 × zMI) :=
    zb (f11_walkerOf I R l1) fun p11 =>
    f11_ownSeconds_L13 n kd R zF l2 l3 p11 (0 : Int32) l2 I
def f11_fewestFrom_L9 (n : Nat) (kd : zMK) (R : zMR)   : Nat → Int32 → Int32 → Int32 → Int32 → zMI → Option (Int32 × zMI)
  | 0, _, _, _, _, _ => none
  | q + 1, l1, l3, l4, l5, I =>
    if (9 : Int32) < l5 then
    some (l3, I)
    else
    if zib (l1 + (1 : Int32)) 6 = true then
    if zib l5 10 = true then
    zl (if l4 < (I (57 + (l1 + (1 : Int32)).toNatClampNeg) l5.toNatClampNeg) then (I (57 + (l1 + (1 : Int32)).toNatClampNeg) l5.toNatClampNeg) else l4) fun x4 =>
    zl (if x4 < l3 then x4 else l3) fun x6 =>
    zb (f11_ownSeconds n kd R l1 l5 (1 : Int32) I) fun p8 =>
    f11_fewestFrom_L9 n kd R q l1 x6 (l4 + p8.1) (l5 + (1 : Int32)) p8.2
    else none
    else none
def f11_fewestFrom (n : Nat) (kd : zMK) (R : zMR)  (l1 : Int32) (l2 : Int32) (I : zMI) : Option (Int32 × zMI) :=
    f11_fewestFrom_L9 n kd R zF l1 (1000000 : Int32) (0 : Int32) l2 I
def f11_planStretches_L40 (n : Nat) (kd : zMK) (R : zMR)  (k66 : Int32 → zMI → Option (Int32 × zMI)) : Nat → Int32 → Int32 → zMI → Option (Int32 × zMI)
  | 0, _, _, _ => none
  | q + 1, l2, l3, I =>
    if (9 : Int32) < l3 then
    k66 l2 I
    else
    if zib l2 6 = true then
    zb (f11_fewestFrom n kd R l2 l3 I) fun p3 =>
    if zib l3 10 = true then
    zl (uI p3.2 (57 + l2.toNatClampNeg) l3.toNatClampNeg p3.1) fun J6 =>
    f11_planStretches_L40 n kd R k66 q l2 (l3 + (1 : Int32)) J6
    else none
    else none
def f11_planStretches_B66 (n : Nat) (kd : zMK) (R : zMR)  (k34 : Int32 → zMI → Option (Int32 × zMI)) (l2 : Int32) (I : zMI) : Option (Int32 × zMI) :=
    k34 (l2 + (-1 : Int32)) I
def f11_planStretches_L34 (n : Nat) (kd : zMK) (R : zMR)  (k72 : zMI → Option (Int32 × zMI)) : Nat → Int32 → zMI → Option (Int32 × zMI)
  | 0, _, _ => none
  | q + 1, l2, I =>
    if l2 < (0 : Int32) then
    k72 I
    else
    f11_planStretches_L40 n kd R (f11_planStretches_B66 n kd R (f11_planStretches_L34 n kd R k72 q)) zF l2 (0 : Int32) I
def f11_planStretches_B72 (n : Nat) (kd : zMK) (R : zMR)    (I : zMI) : Option (Int32 × zMI) :=
    if zib (0 : Int32) 6 = true then
    if zib (0 : Int32) 10 = true then
    some ((I (57 + (0 : Int32).toNatClampNeg) (0 : Int32).toNatClampNeg), I)
    else none
    else none
def f11_planStretches (n : Nat) (kd : zMK) (R : zMR)   (I : zMI) : Option (Int32 × zMI) :=
    zl (if (5 : Int32) < (I 32 4) then (5 : Int32) else (I 32 4)) fun x11 =>
    if zib x11 6 = true then
    zb (fJ7_fill_53178 n kd (57 + x11.toNatClampNeg) (1000000 : Int32) I) fun p14 =>
    if zib (9 : Int32) 10 = true then
    zl (uI p14 (57 + x11.toNatClampNeg) (9 : Int32).toNatClampNeg (0 : Int32)) fun J17 =>
    f11_planStretches_L34 n kd R (f11_planStretches_B72 n kd R) zF (x11 - (1 : Int32)) J17
    else none
    else none
def f11_shareHeaps_L20   (k52 : Int32 → Int32 → Int32 → Int32 → zMI → Option (zMI)) : Nat → Int32 → Int32 → Int32 → Int32 → zMI → Option (zMI)
  | 0, _, _, _, _, _ => none
  | q + 1, l1, l2, l3, l4, I =>
    if (9 : Int32) ≤ (l2 + l4) then
    k52 l1 l2 l3 l4 I
    else
    if zib (l3 + (1 : Int32)) 6 = true then
    if zib (l2 + l4) 10 = true then
    if (I (57 + (l3 + (1 : Int32)).toNatClampNeg) (l2 + l4).toNatClampNeg) ≤ l1 then
    k52 l1 l2 l3 l4 I
    else
    f11_shareHeaps_L20 k52 q l1 l2 l3 (l4 + (1 : Int32)) I
    else none
    else none
def f11_shareHeaps_B52   (k4 : Int32 → Int32 → Int32 → zMI → Option (zMI)) (l1 : Int32) (l2 : Int32) (l3 : Int32) (l4 : Int32) (I : zMI) : Option (zMI) :=
    if zib l3 5 = true then
    zl (uI I 63 l3.toNatClampNeg l4) fun J6 =>
    k4 l1 (l2 + l4) (l3 + (1 : Int32)) J6
    else none
def f11_shareHeaps_L4    : Nat → Int32 → Int32 → Int32 → zMI → Option (zMI)
  | 0, _, _, _, _ => none
  | q + 1, l1, l2, l3, I =>
    if (I 32 4) ≤ l3 then
    some (I)
    else
    if (5 : Int32) ≤ l3 then
    some (I)
    else
    f11_shareHeaps_L20 (f11_shareHeaps_B52 (f11_shareHeaps_L4  q)) zF l1 l2 l3 (0 : Int32) I
def f11_shareHeaps   (l1 : Int32) (I : zMI) : Option (zMI) :=
    f11_shareHeaps_L4 zF l1 (0 : Int32) (0 : Int32) I
def f11_sharesAsDigits_L4 (I : zMI)   : Nat → Int32 → Int32 → Option (Int32)
  | 0, _, _ => none
  | q + 1, l1, l2 =>
    if (I 32 4) ≤ l2 then
    some (l1)
    else
    if (5 : Int32) ≤ l2 then
    some (l1)
    else
    if zib l2 5 = true then
    zl ((l1 * (10 : Int32)) + (I 63 l2.toNatClampNeg)) fun x4 =>
    f11_sharesAsDigits_L4 I q x4 (l2 + (1 : Int32))
    else none
def f11_sharesAsDigits (I : zMI)    : Option (Int32) :=
    f11_sharesAsDigits_L4 I zF (0 : Int32) (0 : Int32)
def f11_secondsOfAll_L6 (n : Nat) (kd : zMK) (R : zMR)   : Nat → Int32 → Int32 → Int32 → zMI → Option (Int32 × zMI)
  | 0, _, _, _, _ => none
  | q + 1, l1, l2, l3, I =>
    if (I 32 4) ≤ l3 then
    some (l1, I)
    else
    if (5 : Int32) ≤ l3 then
    some (l1, I)
    else
    if zib l3 5 = true then
    zb (f11_ownSeconds n kd R l3 l2 (I 63 l3.toNatClampNeg) I) fun p4 =>
    zl (l2 + (p4.2 63 l3.toNatClampNeg)) fun x6 =>
    f11_secondsOfAll_L6 n kd R q (l1 + p4.1) x6 (l3 + (1 : Int32)) p4.2
    else none
def f11_secondsOfAll (n : Nat) (kd : zMK) (R : zMR)   (I : zMI) : Option (Int32 × zMI) :=
    f11_secondsOfAll_L6 n kd R zF (0 : Int32) (0 : Int32) (0 : Int32) I
def f11_stretch (n : Nat) (kd : zMK)  (l1 : Int32) (I : zMI) (R : zMR) : Option (Int32 × zMI × zMR) :=
    if l1 < (0 : Int32) then
    some ((-2 : Int32), I, R)
    else
    if l1 ≤ (2 : Int32) then
    if (I 32 4) = (0 : Int32) then
    some ((-1 : Int32), I, R)
    else
    zb (f11_layHeaps n kd I R) fun p4 =>
    zb (f11_planStretches n kd p4.2 p4.1) fun p6 =>
    zb (f11_shareHeaps p6.1 p6.2) fun p8 =>
    if l1 = (0 : Int32) then
    some (p6.1, p8, p4.2)
    else
    if l1 = (1 : Int32) then
    zb (f11_sharesAsDigits p8) fun p14 =>
    some (p14, p8, p4.2)
    else
    zb (f11_secondsOfAll n kd p4.2 p8) fun p12 =>
    some ((p12.1 + (((p12.2 32 2) - (1 : Int32)) * p6.1)), p12.2, p4.2)
    else
    some ((-2 : Int32), I, R)
def f11_slowest_L27 (n : Nat) (kd : zMK)   : Nat → Int32 → Int32 → Int32 → zMI → zMR → Option (Int32 × zMI × zMR)
  | 0, _, _, _, _, _ => none
  | q + 1, l1, l2, l3, I, R =>
    if (I 32 4) ≤ l3 then
    some ((-1 : Int32), I, R)
    else
    if (5 : Int32) ≤ l3 then
    some ((-1 : Int32), I, R)
    else
    if zib l3 5 = true then
    zb (f11_ownSeconds n kd R l3 l2 (I 63 l3.toNatClampNeg) I) fun p4 =>
    if p4.1 = l1 then
    some (l3, p4.2, R)
    else
    zl (l2 + (p4.2 63 l3.toNatClampNeg)) fun x7 =>
    f11_slowest_L27 n kd q l1 x7 (l3 + (1 : Int32)) p4.2 R
    else none
def f11_slowest (n : Nat) (kd : zMK)   (I : zMI) (R : zMR) : Option (Int32 × zMI × zMR) :=
    if (I 32 4) = (0 : Int32) then
    some ((-1 : Int32), I, R)
    else
    zb (f11_layHeaps n kd I R) fun p10 =>
    zb (f11_planStretches n kd p10.2 p10.1) fun p12 =>
    zb (f11_shareHeaps p12.1 p12.2) fun p14 =>
    f11_slowest_L27 n kd zF p12.1 (0 : Int32) (0 : Int32) p14 p10.2
def f11_sheetOf   (l1 : Int32)  : Option (Option Nat) :=
    if l1 < (0 : Int32) then
    some (none)
    else
    if (4 : Int32) ≤ l1 then
    some (none)
    else
    if zib l1 4 = true then
    some (some (73 + 2 * l1.toNatClampNeg))
    else none
def f11_refusedTelling (I : zMI)  (l1 : Int32)  : Option (Int32) :=
    zb (f11_sheetOf l1) fun p1 =>
    zm p1
    (some ((-2 : Int32)))
    fun a3 =>
    if zSeB a3 = true then
    zb (f6_missing I a3) fun p6 =>
    if p6 = (0 : Int32) then
    zl (if (I a3 1) = (9 : Int32) then
    ((0 : Int32))
    else
    ((-2 : Int32))) fun x10 =>
    some (x10)
    else
    some ((-11 : Int32))
    else none
def f11_refusedJudging (I : zMI)  (l1 : Int32) (l2 : Int32)  : Option (Int32) :=
    zb (f11_refusedTelling I l1) fun p1 =>
    if p1 = (0 : Int32) then
    zb (f11_noSeconds l2) fun p4 =>
    if p4 = (0 : Int32) then
    some (p1)
    else
    some ((-7 : Int32))
    else
    some (p1)
def f11_firstOtherwise_L8 (I : zMI)   : Nat → Option Nat → Int32 → Option (Int32)
  | 0, _, _ => none
  | q + 1, l2, l3 =>
    if (9 : Int32) ≤ l3 then
    some ((-1 : Int32))
    else
    zm l2
    (some ((-1 : Int32)))
    fun a2 =>
    if zSeB a2 = true then
    if zib l3 40 = true then
    zb (f0_heapAt l3) fun p6 =>
    if zHpB p6 = true then
    if (I (a2 + 1) l3.toNatClampNeg) = (I p6 1) then
    f11_firstOtherwise_L8 I q l2 (l3 + (1 : Int32))
    else
    some (l3)
    else none
    else none
    else none
def f11_firstOtherwise (I : zMI)  (l1 : Int32)  : Option (Int32) :=
    zb (f11_sheetOf l1) fun p10 =>
    f11_firstOtherwise_L8 I zF p10 (0 : Int32)
def f11_judge (n : Nat) (kd : zMK)  (l1 : Int32) (l2 : Int32) (I : zMI) (R : zMR) : Option (Int32 × zMI × zMR) :=
    zb (f11_refusedJudging I l1 l2) fun p1 =>
    if p1 = (0 : Int32) then
    zb (f11_layPlain n kd I R) fun p4 =>
    zb (f0_pass n kd p4.2 l2 p4.1) fun p6 =>
    zb (f11_firstOtherwise p6 l1) fun p8 =>
    some (p8, p6, p4.2)
    else
    some (p1, I, R)
def f11_when_B85 (n : Nat) (kd : zMK)  (k37 : Int32 → Int32 → Int32 → Int32 → Int32 → zMI → zMR → Option (Int32 × zMI × zMR)) (l1 : Int32) (l2 : Int32) (l4 : Int32) (l5 : Int32) (l6 : Int32) (I : zMI) (R : zMR) : Option (Int32 × zMI × zMR) :=
    k37 l1 l2 l4 l5 (l6 + (1 : Int32)) I R
def f11_when_B58 (n : Nat) (kd : zMK)  (k37 : Int32 → Int32 → Int32 → Int32 → Int32 → zMI → zMR → Option (Int32 × zMI × zMR)) (l1 : Int32) (l2 : Int32) (l4 : Int32) (l5 : Int32) (l6 : Int32) (I : zMI) (R : zMR) : Option (Int32 × zMI × zMR) :=
    zb (f11_firstOtherwise I l1) fun p1 =>
    if p1 = (-1 : Int32) then
    zl (if l4 = (-1 : Int32) then
    (l6)
    else
    (l4)) fun x5 =>
    f11_when_B85 n kd k37 l1 l2 x5 (l5 + (1 : Int32)) l6 I R
    else
    f11_when_B85 n kd k37 l1 l2 l4 l5 l6 I R
def f11_when_L37 (n : Nat) (kd : zMK)  (k91 : Int32 → Int32 → Int32 → zMI → zMR → Option (Int32 × zMI × zMR)) : Nat → Int32 → Int32 → Int32 → Int32 → Int32 → zMI → zMR → Option (Int32 × zMI × zMR)
  | 0, _, _, _, _, _, _, _ => none
  | q + 1, l1, l2, l4, l5, l6, I, R =>
    if (600 : Int32) < l6 then
    k91 l2 l4 l5 I R
    else
    if l6 ≤ (0 : Int32) then
    f11_when_B58 n kd (f11_when_L37 n kd k91 q) l1 l2 l4 l5 l6 I R
    else
    zb (f0_pass n kd R (1 : Int32) I) fun p10 =>
    f11_when_B58 n kd (f11_when_L37 n kd k91 q) l1 l2 l4 l5 l6 p10 R
def f11_when_B91 (n : Nat) (kd : zMK)   (l2 : Int32) (l4 : Int32) (l5 : Int32) (I : zMI) (R : zMR) : Option (Int32 × zMI × zMR) :=
    zl (if l2 = (0 : Int32) then
    (l4)
    else
    (l5)) fun x13 =>
    some (x13, I, R)
def f11_when (n : Nat) (kd : zMK)  (l1 : Int32) (l2 : Int32) (I : zMI) (R : zMR) : Option (Int32 × zMI × zMR) :=
    zb (f11_refusedTelling I l1) fun p16 =>
    if p16 = (0 : Int32) then
    if l2 < (0 : Int32) then
    some ((-7 : Int32), I, R)
    else
    if l2 ≤ (1 : Int32) then
    zb (f11_layPlain n kd I R) fun p21 =>
    f11_when_L37 n kd (f11_when_B91 n kd) zF l1 l2 (-1 : Int32) (0 : Int32) (0 : Int32) p21.1 p21.2
    else
    some ((-7 : Int32), I, R)
    else
    some (p16, I, R)
def f11_sticks_L32 (n : Nat) (kd : zMK)   : Nat → Int32 → Int32 → Int32 → Int32 → Int32 → zMI → zMR → Option (Int32 × zMI × zMR)
  | 0, _, _, _, _, _, _, _ => none
  | q + 1, l1, l2, l3, l5, l6, I, R =>
    if (9 : Int32) < l6 then
    some (l5, I, R)
    else
    zb (f11_layPlain n kd I R) fun p2 =>
    zb (f0_heapAt l3) fun p4 =>
    if zHpB p4 = true then
    zl (uI p2.1 p4 2 l6) fun J7 =>
    zb (f0_pass n kd p2.2 l2 J7) fun p9 =>
    zb (f11_firstOtherwise p9 l1) fun p11 =>
    zl (if p11 = (-1 : Int32) then
    (((1 : Int32) <<< (l6 &&& 31)))
    else
    ((0 : Int32))) fun x14 =>
    f11_sticks_L32 n kd q l1 l2 l3 (l5 ||| x14) (l6 + (1 : Int32)) p9 p2.2
    else none
def f11_sticks (n : Nat) (kd : zMK)  (l1 : Int32) (l2 : Int32) (l3 : Int32) (I : zMI) (R : zMR) : Option (Int32 × zMI × zMR) :=
    zb (f11_refusedJudging I l1 l2) fun p17 =>
    if p17 = (0 : Int32) then
    zb (f11_noHeap l3) fun p20 =>
    if p20 = (0 : Int32) then
    f11_sticks_L32 n kd zF l1 l2 l3 (0 : Int32) (0 : Int32) I R
    else
    some ((-6 : Int32), I, R)
    else
    some (p17, I, R)
def f11_layPlainWith_B39 (n : Nat) (kd : zMK)  (k6 : Option Nat → Int32 → zMI → zMR → Option (zMI × zMR)) (l1 : Option Nat) (l2 : Int32) (s1 : Option Nat) (I : zMI) (R : zMR) : Option (zMI × zMR) :=
    zb (f0_join n kd s1 I R) fun p1 =>
    k6 l1 (l2 + (1 : Int32)) p1.1 p1.2
def f11_layPlainWith_B34 (n : Nat) (kd : zMK)  (k6 : Option Nat → Int32 → zMI → zMR → Option (zMI × zMR)) (l1 : Option Nat) (l2 : Int32) (I : zMI) (R : zMR) : Option (zMI × zMR) :=
    zb (f11_walkerOf I R l2) fun p3 =>
    f11_layPlainWith_B39 n kd k6 l1 l2 p3 I R
def f11_layPlainWith_L6 (n : Nat) (kd : zMK)   : Nat → Option Nat → Int32 → zMI → zMR → Option (zMI × zMR)
  | 0, _, _, _, _ => none
  | q + 1, l1, l2, I, R =>
    if (I 32 4) ≤ l2 then
    some (I, R)
    else
    zm l1
    (f11_layPlainWith_B34 n kd (f11_layPlainWith_L6 n kd q) l1 l2 I R)
    fun a6 =>
    if zWkB n kd a6 = true then
    if l2 = (I a6 0) then
    f11_layPlainWith_B39 n kd (f11_layPlainWith_L6 n kd q) l1 l2 (some a6) I R
    else
    f11_layPlainWith_B34 n kd (f11_layPlainWith_L6 n kd q) l1 l2 I R
    else none
def f11_layPlainWith (n : Nat) (kd : zMK)  (l1 : Option Nat) (I : zMI) (R : zMR) : Option (zMI × zMR) :=
    zb (f11_layHeaps n kd I R) fun p10 =>
    f11_layPlainWith_L6 n kd zF l1 (0 : Int32) p10.1 p10.2
def f11_laws_L19 (n : Nat) (kd : zMK)   : Nat → Int32 → Int32 → Int32 → Int32 → zMI → zMR → Option (Int32 × zMI × zMR)
  | 0, _, _, _, _, _, _ => none
  | q + 1, l1, l2, l4, l5, I, R =>
    if (I 32 6) ≤ l5 then
    some (l4, I, R)
    else
    zb (f11_layPlain n kd I R) fun p2 =>
    zb (f11_textOf p2.1 p2.2 l5) fun p4 =>
    zl (uR p2.2 42 7 p4) fun T6 =>
    zb (f0_pass n kd T6 l2 p2.1) fun p8 =>
    zb (f11_firstOtherwise p8 l1) fun p10 =>
    zl (if p10 = (-1 : Int32) then
    (((1 : Int32) <<< (l5 &&& 31)))
    else
    ((0 : Int32))) fun x13 =>
    f11_laws_L19 n kd q l1 l2 (l4 ||| x13) (l5 + (1 : Int32)) p8 T6
def f11_laws (n : Nat) (kd : zMK)  (l1 : Int32) (l2 : Int32) (I : zMI) (R : zMR) : Option (Int32 × zMI × zMR) :=
    zb (f11_refusedJudging I l1 l2) fun p16 =>
    if p16 = (0 : Int32) then
    f11_laws_L19 n kd zF l1 l2 (0 : Int32) (0 : Int32) I R
    else
    some (p16, I, R)
def f11_film_L42 (n : Nat) (kd : zMK)   : Nat → Option Nat → Int32 → zMI → zMR → Option (Int32 × zMI × zMR)
  | 0, _, _, _, _ => none
  | q + 1, l3, l4, I, R =>
    if (9 : Int32) ≤ l4 then
    some ((9 : Int32), I, R)
    else
    zb (f0_heapAt l4) fun p2 =>
    if zHpB p2 = true then
    zm l3 none fun a5 =>
    if zSeB a5 = true then
    zb (f6_put a5 l4 (I p2 1) I) fun p8 =>
    f11_film_L42 n kd q l3 (l4 + (1 : Int32)) p8 R
    else none
    else none
def f11_film (n : Nat) (kd : zMK)  (l1 : Int32) (l2 : Int32) (I : zMI) (R : zMR) : Option (Int32 × zMI × zMR) :=
    zb (f11_sheetOf l1) fun p10 =>
    zm p10
    (some ((-2 : Int32), I, R))
    fun a12 =>
    zb (f11_noSeconds l2) fun p14 =>
    if p14 = (0 : Int32) then
    zb (f11_layPlain n kd I R) fun p17 =>
    zb (f0_pass n kd p17.2 l2 p17.1) fun p19 =>
    if zSeB a12 = true then
    zb (f6_become n kd a12 (1 : Int32) (9 : Int32) p19) fun p22 =>
    f11_film_L42 n kd zF p10 (0 : Int32) p22 p17.2
    else none
    else
    some ((-2 : Int32), I, R)
def f11_drawn (n : Nat) (kd : zMK)  (l1 : Int32) (l2 : Int32) (I : zMI) (R : zMR) : Option (Int32 × zMI × zMR) :=
    if l1 < (0 : Int32) then
    some ((-2 : Int32), I, R)
    else
    if (99999 : Int32) < l1 then
    some ((-2 : Int32), I, R)
    else
    if l2 < (0 : Int32) then
    some ((-2 : Int32), I, R)
    else
    if l2 ≤ (2 : Int32) then
    zb (f11_layPlain n kd I R) fun p5 =>
    zb (f0_draw l1 p5.1) fun p7 =>
    zb (f0_pass n kd p5.2 (600 : Int32) p7) fun p9 =>
    if l2 = (0 : Int32) then
    some ((p9 42 9), p9, p5.2)
    else
    if l2 = (1 : Int32) then
    some ((p9 42 10), p9, p5.2)
    else
    some ((p9 42 11), p9, p5.2)
    else
    some ((-2 : Int32), I, R)
def f11_commonDivisor_L2    : Nat → Int32 → Int32 → Int32 → Option (Int32)
  | 0, _, _, _ => none
  | q + 1, l0, l1, l2 =>
    if (64 : Int32) ≤ l2 then
    some (l0)
    else
    if l1 = (0 : Int32) then
    some (l0)
    else
    if ¬ l1 = (0 : Int32) then
    f11_commonDivisor_L2  q l1 (l0 - l0 / l1 * l1) (l2 + (1 : Int32))
    else none
def f11_commonDivisor   (l0 : Int32) (l1 : Int32)  : Option (Int32) :=
    f11_commonDivisor_L2 zF l0 l1 (0 : Int32)
def f11_odds_L53 (n : Nat) (kd : zMK)  (k128 : Int32 → Int32 → Int32 → zMI → zMR → Option (Int64 × zMI × zMR)) : Nat → Int32 → Int32 → Int32 → Int32 → Int32 → Int32 → Int32 → zMI → zMR → Option (Int64 × zMI × zMR)
  | 0, _, _, _, _, _, _, _, _, _ => none
  | q + 1, l1, l2, l3, l4, l5, l6, l7, I, R =>
    if l2 ≤ l7 then
    k128 l4 l5 l6 I R
    else
    zb (f11_layPlain n kd I R) fun p2 =>
    zb (f0_draw (l1 + l7) p2.1) fun p4 =>
    zb (f0_pass n kd p2.2 l3 p4) fun p6 =>
    zl (l6 + (((p6 42 9) - (p6 42 10)) - (p6 42 11))) fun x8 =>
    f11_odds_L53 n kd k128 q l1 l2 l3 l4 (l5 + (p6 42 9)) x8 (l7 + (1 : Int32)) p6 p2.2
def f11_odds_B128 (n : Nat) (kd : zMK)   (l4 : Int32) (l5 : Int32) (l6 : Int32) (I : zMI) (R : zMR) : Option (Int64 × zMI × zMR) :=
    zb (f11_commonDivisor l5 l6) fun p10 =>
    if (0 : Int32) < p10 then
    zl (if l4 = (0 : Int32) then
    (l6)
    else
    (l5)) fun x14 =>
    if ¬ p10 = (0 : Int32) then
    some ((x14 / p10).toInt64, I, R)
    else none
    else
    some ((-4611686018427387904 : Int64), I, R)
def f11_odds (n : Nat) (kd : zMK)  (l1 : Int32) (l2 : Int32) (l3 : Int32) (l4 : Int32) (I : zMI) (R : zMR) : Option (Int64 × zMI × zMR) :=
    if l1 < (0 : Int32) then
    some ((-4611686018427387904 : Int64), I, R)
    else
    if (99999 : Int32) < l1 then
    some ((-4611686018427387904 : Int64), I, R)
    else
    if l2 < (1 : Int32) then
    some ((-4611686018427387904 : Int64), I, R)
    else
    if (10 : Int32) < l2 then
    some ((-4611686018427387904 : Int64), I, R)
    else
    zb (f11_noSeconds l3) fun p22 =>
    if p22 = (0 : Int32) then
    if l4 < (0 : Int32) then
    some ((-4611686018427387904 : Int64), I, R)
    else
    if l4 ≤ (1 : Int32) then
    f11_odds_L53 n kd (f11_odds_B128 n kd) zF l1 l2 l3 l4 (0 : Int32) (0 : Int32) (0 : Int32) I R
    else
    some ((-4611686018427387904 : Int64), I, R)
    else
    some ((-4611686018427387904 : Int64), I, R)
def f11_image_L2 (n : Nat) (kd : zMK) (R : zMR)  (k38 : zMI → Option (Int32 × zMI)) : Nat → Int32 → zMI → Option (Int32 × zMI)
  | 0, _, _ => none
  | q + 1, l1, I =>
    if (9 : Int32) ≤ l1 then
    k38 I
    else
    if zib l1 9 = true then
    zl (uI I 64 l1.toNatClampNeg (I 33 l1.toNatClampNeg)) fun J3 =>
    zl (uI J3 65 l1.toNatClampNeg (J3 34 l1.toNatClampNeg)) fun J5 =>
    f11_image_L2 n kd R k38 q (l1 + (1 : Int32)) J5
    else none
def f11_image_B77 (n : Nat) (kd : zMK) (R : zMR)  (k40 : Int32 → zMI → Option (Int32 × zMI)) (l1 : Int32) (s1 : Int32) (s2 : Int32) (I : zMI) : Option (Int32 × zMI) :=
    if zib s1 5 = true then
    zl (uI I 66 s1.toNatClampNeg s2) fun J8 =>
    k40 (l1 + (1 : Int32)) J8
    else none
def f11_image_L40 (n : Nat) (kd : zMK) (R : zMR)  (k84 : zMI → Option (Int32 × zMI)) : Nat → Int32 → zMI → Option (Int32 × zMI)
  | 0, _, _ => none
  | q + 1, l1, I =>
    if (I 32 4) ≤ l1 then
    k84 I
    else
    if (5 : Int32) ≤ l1 then
    k84 I
    else
    if zib l1 5 = true then
    zm (R 35 l1.toNatClampNeg)
    (f11_image_B77 n kd R (f11_image_L40 n kd R k84 q) l1 l1 (0 : Int32) I)
    fun a13 =>
    if zWkB n kd a13 = true then
    f11_image_B77 n kd R (f11_image_L40 n kd R k84 q) l1 l1 (I a13 2) I
    else none
    else none
def f11_image_B84 (n : Nat) (kd : zMK) (R : zMR)    (I : zMI) : Option (Int32 × zMI) :=
    zl (uI I 32 17 (I 32 2)) fun J16 =>
    zl (uI J16 32 18 (J16 32 4)) fun J18 =>
    zl (uI J18 32 19 (J18 32 7)) fun J20 =>
    some ((J20 32 4), J20)
def f11_image_B38 (n : Nat) (kd : zMK) (R : zMR)    (I : zMI) : Option (Int32 × zMI) :=
    f11_image_L40 n kd R (f11_image_B84 n kd R) zF (0 : Int32) I
def f11_image (n : Nat) (kd : zMK) (R : zMR)   (I : zMI) : Option (Int32 × zMI) :=
    f11_image_L2 n kd R (f11_image_B38 n kd R) zF (0 : Int32) I
def f11_back_L13 (n : Nat) (kd : zMK)  (k49 : zMI → zMR → Option (Int32 × zMI × zMR)) : Nat → Int32 → zMI → zMR → Option (Int32 × zMI × zMR)
  | 0, _, _, _ => none
  | q + 1, l1, I, R =>
    if (9 : Int32) ≤ l1 then
    k49 I R
    else
    if zib l1 9 = true then
    zl (uI I 33 l1.toNatClampNeg (I 64 l1.toNatClampNeg)) fun J3 =>
    zl (uI J3 34 l1.toNatClampNeg (J3 65 l1.toNatClampNeg)) fun J5 =>
    f11_back_L13 n kd k49 q (l1 + (1 : Int32)) J5 R
    else none
def f11_back_B95 (n : Nat) (kd : zMK)  (k51 : Int32 → zMI → zMR → Option (Int32 × zMI × zMR)) (l1 : Int32) (I : zMI) (R : zMR) : Option (Int32 × zMI × zMR) :=
    k51 (l1 + (1 : Int32)) I R
def f11_back_L51 (n : Nat) (kd : zMK)  (k101 : zMI → zMR → Option (Int32 × zMI × zMR)) : Nat → Int32 → zMI → zMR → Option (Int32 × zMI × zMR)
  | 0, _, _, _ => none
  | q + 1, l1, I, R =>
    if (5 : Int32) ≤ l1 then
    k101 I R
    else
    if zib l1 5 = true then
    if l1 < (I 32 18) then
    zm (R 35 l1.toNatClampNeg)
    (f11_back_B95 n kd (f11_back_L51 n kd k101 q) l1 I R)
    fun a10 =>
    if zWkB n kd a10 = true then
    zl (uI I a10 2 (I 66 l1.toNatClampNeg)) fun J13 =>
    f11_back_B95 n kd (f11_back_L51 n kd k101 q) l1 J13 R
    else none
    else
    zl (uR R 35 l1.toNatClampNeg none) fun T15 =>
    f11_back_B95 n kd (f11_back_L51 n kd k101 q) l1 I T15
    else none
def f11_back_B101 (n : Nat) (kd : zMK)    (I : zMI) (R : zMR) : Option (Int32 × zMI × zMR) :=
    zl (uI I 32 2 (I 32 17)) fun J17 =>
    zl (uI J17 32 4 (J17 32 18)) fun J19 =>
    zl (uI J19 32 7 (J19 32 19)) fun J21 =>
    some ((J21 32 4), J21, R)
def f11_back_B49 (n : Nat) (kd : zMK)    (I : zMI) (R : zMR) : Option (Int32 × zMI × zMR) :=
    f11_back_L51 n kd (f11_back_B101 n kd) zF (0 : Int32) I R
def f11_back (n : Nat) (kd : zMK)   (I : zMI) (R : zMR) : Option (Int32 × zMI × zMR) :=
    if (I 32 18) = (-1 : Int32) then
    some ((-3 : Int32), I, R)
    else
    f11_back_L13 n kd (f11_back_B49 n kd) zF (0 : Int32) I R
def f11_sheet (n : Nat) (kd : zMK)  (l1 : Int32) (l2 : Int32) (l3 : Int32) (I : zMI) : Option (Int32 × zMI) :=
    zb (f11_sheetOf l1) fun p1 =>
    zm p1
    (some ((-2 : Int32), I))
    fun a3 =>
    if l2 < (-1 : Int32) then
    some ((-2 : Int32), I)
    else
    if l2 ≤ (2 : Int32) then
    if l2 = (-1 : Int32) then
    if zSeB a3 = true then
    zb (f6_become n kd a3 (-1 : Int32) (0 : Int32) I) fun p14 =>
    some ((1 : Int32), p14)
    else none
    else
    if l3 ≤ (40 : Int32) then
    if (0 : Int32) ≤ l3 then
    if zSeB a3 = true then
    zb (f6_become n kd a3 l2 l3 I) fun p11 =>
    some ((1 : Int32), p11)
    else none
    else
    some ((-14 : Int32), I)
    else
    some ((-2 : Int32), I)
    else
    some ((-2 : Int32), I)
def f11_cell   (l1 : Int32) (l2 : Int32) (l3 : Int32) (I : zMI) : Option (Int32 × zMI) :=
    zb (f11_sheetOf l1) fun p1 =>
    zm p1
    (some ((-2 : Int32), I))
    fun a3 =>
    if zSeB a3 = true then
    zb (f6_missing I a3) fun p6 =>
    if p6 = (0 : Int32) then
    zb (f6_holds I a3 l2 (1 : Int32)) fun p9 =>
    if p9 = (0 : Int32) then
    some ((-12 : Int32), I)
    else
    zb (f6_put a3 l2 l3 I) fun p12 =>
    some ((1 : Int32), p12)
    else
    some ((-11 : Int32), I)
    else none
def f11_copy   (l1 : Int32) (l2 : Int32) (l3 : Int32) (l4 : Int32) (l5 : Int32) (I : zMI) : Option (Int32 × zMI) :=
    zb (f11_sheetOf l1) fun p1 =>
    zb (f11_sheetOf l3) fun p3 =>
    zm p1
    (some ((-2 : Int32), I))
    fun a5 =>
    zm p3
    (some ((-2 : Int32), I))
    fun a7 =>
    if zSeB a5 = true then
    zb (f6_missing I a5) fun p10 =>
    if p10 = (0 : Int32) then
    if zSeB a7 = true then
    zb (f6_missing I a7) fun p14 =>
    if p14 = (0 : Int32) then
    if (I a5 0) = (I a7 0) then
    zb (f6_holds I a5 l2 l5) fun p18 =>
    if p18 = (0 : Int32) then
    some ((-12 : Int32), I)
    else
    zb (f6_holds I a7 l4 l5) fun p21 =>
    if p21 = (0 : Int32) then
    some ((-12 : Int32), I)
    else
    if zcpB l2 l4 l5 40 40 = true then
    zl (uA I (a7 + 1) (va_cpy (I (a5 + 1)) (I (a7 + 1)) l2.toNatClampNeg l4.toNatClampNeg l5.toNatClampNeg)) fun J25 =>
    some (l5, J25)
    else none
    else
    some ((-13 : Int32), I)
    else
    some ((-11 : Int32), I)
    else none
    else
    some ((-11 : Int32), I)
    else none
def f11_heapTaken (I : zMI)  (l1 : Int32) (l2 : Int32)  : Option (Int32) :=
    zb (f11_noHeap l1) fun p1 =>
    if p1 = (0 : Int32) then
    if zib l1 9 = true then
    if (I 33 l1.toNatClampNeg) = (0 : Int32) then
    some ((-11 : Int32))
    else
    zl (if l2 = (6 : Int32) then
    ((I 33 l1.toNatClampNeg))
    else
    ((-13 : Int32))) fun x7 =>
    some (x7)
    else none
    else
    some ((-11 : Int32))
def f11_walkerTaken (n : Nat) (kd : zMK) (I : zMI) (R : zMR)  (l1 : Int32) (l2 : Int32)  : Option (Int32) :=
    zb (f11_walkerOf I R l1) fun p1 =>
    zm p1
    (some ((-11 : Int32)))
    fun a3 =>
    if zWkB n kd a3 = true then
    zb (fv_isOf n kd I a3 l2) fun p6 =>
    zl (if p6 = (0 : Int32) then
    ((-13 : Int32))
    else
    ((I a3 0))) fun x9 =>
    some (x9)
    else none
def f11_taken (n : Nat) (kd : zMK) (I : zMI) (R : zMR)  (l1 : Int32) (l2 : Int32)  : Option (Int32) :=
    if l2 < (0 : Int32) then
    some ((-2 : Int32))
    else
    if l2 ≤ (6 : Int32) then
    if l1 < (0 : Int32) then
    some ((-12 : Int32))
    else
    if l1 < (14 : Int32) then
    if (9 : Int32) ≤ l1 then
    zb (f11_walkerTaken n kd I R (l1 - (9 : Int32)) l2) fun p6 =>
    some (p6)
    else
    zb (f11_heapTaken I l1 l2) fun p8 =>
    some (p8)
    else
    some ((-12 : Int32))
    else
    some ((-2 : Int32))

/-! the reference's methods as functions: laid by program out of the bytecode -/
def f12_in   (l0 : Int32) (l1 : Int32) (l2 : Int32)  : Option (Int32) :=
zl (if l0 < l1 then
((0 : Int32))
else
if l2 < l0 then
((0 : Int32))
else
((1 : Int32))) fun x3 =>
if zbB x3 = true then
some (x3)
else none
def f12_within   (l0 : Int32) (l1 : Int32) (l2 : Int32)  : Option (Int32) :=
zl (if l1 ≤ l0 then
if l0 ≤ l2 then
(l0)
else
(l2)
else
(l1)) fun x3 =>
some (x3)
def f12_isWalker (I : zMI)  (l1 : Int32)  : Option (Int32) :=
zb (f12_in l1 (0 : Int32) ((I 81 3) - (1 : Int32))) fun p1 =>
if zbB p1 = true then
some (p1)
else none
def f12_isHeap   (l0 : Int32)  : Option (Int32) :=
zb (f12_in l0 (0 : Int32) (8 : Int32)) fun p1 =>
if zbB p1 = true then
some (p1)
else none
def f12_areSeconds   (l0 : Int32)  : Option (Int32) :=
zb (f12_in l0 (0 : Int32) (600 : Int32)) fun p1 =>
if zbB p1 = true then
some (p1)
else none
def f12_count (I : zMI)  (l1 : Int32)  : Option (Int32) :=
if l1 = (0 : Int32) then
some ((I 81 3))
else
if l1 = (1 : Int32) then
some ((I 81 2))
else
if l1 = (2 : Int32) then
some ((I 81 11))
else
if l1 = (3 : Int32) then
some ((I 81 12))
else
if l1 = (4 : Int32) then
some ((I 81 8))
else
some ((-2 : Int32))
def f12_set_B27    (l1 : Int32) (l2 : Int32) (l3 : Int32) (I : zMI) : Option (Int32 × zMI) :=
zl (if l1 = (2 : Int32) then
((1 : Int32))
else
((0 : Int32))) fun x2 =>
zl (if l1 = (1 : Int32) then
((9 : Int32))
else
((200 : Int32))) fun x5 =>
zb (f12_in l3 x2 x5) fun p7 =>
if p7 = (0 : Int32) then
some ((-7 : Int32), I)
else
zb (if l1 = (0 : Int32) then
if zib l2 9 = true then
some ((I 82 l2.toNatClampNeg))
else none
else
if l1 = (1 : Int32) then
if zib l2 9 = true then
some ((I 83 l2.toNatClampNeg))
else none
else
some ((I 81 2))) fun x14 =>
if l1 = (0 : Int32) then
if zib l2 9 = true then
zl (uI I 82 l2.toNatClampNeg l3) fun J18 =>
some (x14, J18)
else none
else
if l1 = (1 : Int32) then
if zib l2 9 = true then
zl (uI I 83 l2.toNatClampNeg l3) fun J22 =>
some (x14, J22)
else none
else
zl (uI I 81 2 l3) fun J24 =>
some (x14, J24)
def f12_set   (l1 : Int32) (l2 : Int32) (l3 : Int32) (I : zMI) : Option (Int32 × zMI) :=
zb (f12_in l1 (0 : Int32) (2 : Int32)) fun p29 =>
if p29 = (0 : Int32) then
some ((-5 : Int32), I)
else
if (2 : Int32) ≤ l1 then
f12_set_B27 l1 l2 l3 I
else
zb (f12_isHeap l2) fun p33 =>
if p33 = (0 : Int32) then
some ((-6 : Int32), I)
else
f12_set_B27 l1 l2 l3 I
def f12_heap (I : zMI)  (l1 : Int32) (l2 : Int32)  : Option (Int32) :=
zb (f12_isHeap l1) fun p1 =>
if p1 = (0 : Int32) then
some ((-6 : Int32))
else
zb (if l2 = (0 : Int32) then
if zib l1 9 = true then
some ((I 82 l1.toNatClampNeg))
else none
else
if l2 = (1 : Int32) then
if zib l1 9 = true then
some ((I 83 l1.toNatClampNeg))
else none
else
some ((-7 : Int32))) fun x8 =>
some (x8)
def f12_isByte   (l0 : Int32)  : Option (Int32) :=
zb (f12_in l0 (0 : Int32) (255 : Int32)) fun p1 =>
if zbB p1 = true then
some (p1)
else none
def f12_feed_L68    : Nat → Int32 → Int32 → Int32 → Int32 → Int32 → Int32 → Int32 → zMI → Option (Int32 × zMI)
  | 0, _, _, _, _, _, _, _, _ => none
  | q + 1, l1, l2, l3, l4, l5, l6, l7, I =>
    if l1 ≤ l7 then
    some ((I 81 8), I)
    else
    zl (if l7 = (0 : Int32) then
    (l2)
    else
    if l7 = (1 : Int32) then
    (l3)
    else
    if l7 = (2 : Int32) then
    (l4)
    else
    if l7 = (3 : Int32) then
    (l5)
    else
    (l6)) fun x6 =>
    if zib (I 81 8) 160 = true then
    zl (uI I 87 (I 81 8).toNatClampNeg x6) fun J9 =>
    zl (uI J9 81 8 ((J9 81 8) + (1 : Int32))) fun J11 =>
    f12_feed_L68  q l1 l2 l3 l4 l5 l6 (l7 + (1 : Int32)) J11
    else none
def f12_feed   (l1 : Int32) (l2 : Int32) (l3 : Int32) (l4 : Int32) (l5 : Int32) (l6 : Int32) (I : zMI) : Option (Int32 × zMI) :=
zb (f12_in l1 (1 : Int32) (5 : Int32)) fun p14 =>
if p14 = (0 : Int32) then
some ((-2 : Int32), I)
else
zb (f12_isByte l2) fun p17 =>
if p17 = (0 : Int32) then
some ((-2 : Int32), I)
else
zb (f12_isByte l3) fun p20 =>
if p20 = (0 : Int32) then
some ((-2 : Int32), I)
else
zb (f12_isByte l4) fun p23 =>
if p23 = (0 : Int32) then
some ((-2 : Int32), I)
else
zb (f12_isByte l5) fun p26 =>
if p26 = (0 : Int32) then
some ((-2 : Int32), I)
else
zb (f12_isByte l6) fun p29 =>
if p29 = (0 : Int32) then
some ((-2 : Int32), I)
else
if ((I 81 8) + l1) ≤ (160 : Int32) then
f12_feed_L68 zF l1 l2 l3 l4 l5 l6 (0 : Int32) I
else
some ((-4 : Int32), I)
def f12_wordFrom_L26 (I : zMI)  (k88 : Int32 → Int32 → Int32 → Int32 → Option (Int32)) : Nat → Int32 → Int32 → Int32 → Int32 → Int32 → Option (Int32)
  | 0, _, _, _, _, _ => none
  | q + 1, l1, l2, l3, l4, l5 =>
    if (8 : Int32) ≤ l5 then
    k88 l1 l2 l3 l4
    else
    if l4 = (0 : Int32) then
    k88 l1 l2 l3 l4
    else
    if zib (((8 : Int32) * l3) + l5) 96 = true then
    zb (if l2 ≤ (l1 + l5) then
    some ((32 : Int32))
    else
    if zib (l1 + l5) 160 = true then
    some ((I 87 (l1 + l5).toNatClampNeg))
    else none) fun x6 =>
    zl (if (I 95 (((8 : Int32) * l3) + l5).toNatClampNeg) = x6 then
    ((1 : Int32))
    else
    ((0 : Int32))) fun x9 =>
    f12_wordFrom_L26 I k88 q l1 l2 l3 x9 (l5 + (1 : Int32))
    else none
def f12_wordFrom_B88 (I : zMI)  (k2 : Int32 → Int32 → Int32 → Option (Int32)) (l1 : Int32) (l2 : Int32) (l3 : Int32) (l4 : Int32)  : Option (Int32) :=
if l4 = (0 : Int32) then
k2 l1 l2 (l3 + (1 : Int32))
else
some (l3)
def f12_wordFrom_L2 (I : zMI)   : Nat → Int32 → Int32 → Int32 → Option (Int32)
  | 0, _, _, _ => none
  | q + 1, l1, l2, l3 =>
    if (12 : Int32) ≤ l3 then
    some ((12 : Int32))
    else
    zl (if (8 : Int32) < (l2 - l1) then
    ((0 : Int32))
    else
    ((1 : Int32))) fun x16 =>
    f12_wordFrom_L26 I (f12_wordFrom_B88 I (f12_wordFrom_L2 I q)) zF l1 l2 l3 x16 (0 : Int32)
def f12_wordFrom (I : zMI)  (l1 : Int32) (l2 : Int32)  : Option (Int32) :=
f12_wordFrom_L2 I zF l1 l2 (0 : Int32)
def f12_next_B39   (k0 : zMI → Option (zMI))  (I : zMI) : Option (zMI) :=
zl (uI I 81 22 ((I 81 22) + (1 : Int32))) fun J1 =>
k0 J1
def f12_next_L0   (k52 : zMI → Option (zMI)) : Nat → zMI → Option (zMI)
  | 0, _ => none
  | q + 1, I =>
    if (I 81 8) ≤ (I 81 22) then
    k52 I
    else
    if zib (I 81 22) 160 = true then
    if (I 87 (I 81 22).toNatClampNeg) = (32 : Int32) then
    f12_next_B39 (f12_next_L0 k52 q) I
    else
    if (I 87 (I 81 22).toNatClampNeg) = (10 : Int32) then
    f12_next_B39 (f12_next_L0 k52 q) I
    else
    k52 I
    else none
def f12_next_L103   (k146 : zMI → Option (zMI)) : Nat → zMI → Option (zMI)
  | 0, _ => none
  | q + 1, I =>
    if (I 81 8) ≤ (I 81 22) then
    k146 I
    else
    if zib (I 81 22) 160 = true then
    zb (f12_in (I 87 (I 81 22).toNatClampNeg) (97 : Int32) (122 : Int32)) fun p9 =>
    if p9 = (0 : Int32) then
    k146 I
    else
    zl (uI I 81 22 ((I 81 22) + (1 : Int32))) fun J12 =>
    f12_next_L103 k146 q J12
    else none
def f12_next_B146     (I : zMI) : Option (zMI) :=
zb (f12_wordFrom I (I 81 23) (I 81 22)) fun p14 =>
zl (if (3 : Int32) ≤ p14 then
if (9 : Int32) ≤ p14 then
if p14 = (12 : Int32) then
((-1 : Int32))
else
((((4 : Int32) + p14) - (9 : Int32)))
else
((2 : Int32))
else
((3 : Int32))) fun x19 =>
zl (uI I 81 24 x19) fun J21 =>
zl (if (3 : Int32) ≤ p14 then
((p14 - (3 : Int32)))
else
(p14)) fun x24 =>
zl (uI J21 81 25 x24) fun J26 =>
some (J26)
def f12_next_L230   (k309 : Int32 → zMI → Option (zMI)) : Nat → Int32 → zMI → Option (zMI)
  | 0, _, _ => none
  | q + 1, l2, I =>
    if (I 81 8) ≤ (I 81 22) then
    k309 l2 I
    else
    if zib (I 81 22) 160 = true then
    zb (f12_in (I 87 (I 81 22).toNatClampNeg) (48 : Int32) (57 : Int32)) fun p32 =>
    if p32 = (0 : Int32) then
    k309 l2 I
    else
    zl (if (4 : Int32) ≤ l2 then
    ((0 : Int32))
    else
    (((((10 : Int32) * (I 81 25)) + (I 87 (I 81 22).toNatClampNeg)) - (48 : Int32)))) fun x36 =>
    zl (uI I 81 25 x36) fun J38 =>
    zl (uI J38 81 22 ((J38 81 22) + (1 : Int32))) fun J40 =>
    f12_next_L230 k309 q (l2 + (1 : Int32)) J40
    else none
def f12_next_B309    (l2 : Int32) (I : zMI) : Option (zMI) :=
zl (if l2 ≤ (4 : Int32) then
((1 : Int32))
else
((-1 : Int32))) fun x44 =>
zl (uI I 81 24 x44) fun J46 =>
some (J46)
def f12_next_B52     (I : zMI) : Option (zMI) :=
zl (uI I 81 23 (I 81 22)) fun J49 =>
zl (uI J49 81 24 (0 : Int32)) fun J51 =>
zl (uI J51 81 25 (0 : Int32)) fun J53 =>
if (J53 81 22) = (J53 81 8) then
some (J53)
else
if zib (J53 81 22) 160 = true then
zl (J53 87 (J53 81 22).toNatClampNeg) fun x57 =>
zb (f12_in x57 (97 : Int32) (122 : Int32)) fun p59 =>
if p59 = (0 : Int32) then
zb (f12_in x57 (48 : Int32) (57 : Int32)) fun p62 =>
if p62 = (0 : Int32) then
zl (if x57 = (40 : Int32) then
((1 : Int32))
else
if x57 = (41 : Int32) then
((1 : Int32))
else
if x57 = (59 : Int32) then
((1 : Int32))
else
if x57 = (43 : Int32) then
((1 : Int32))
else
if x57 = (45 : Int32) then
((1 : Int32))
else
if x57 = (42 : Int32) then
((1 : Int32))
else
if x57 = (60 : Int32) then
((1 : Int32))
else
if x57 = (61 : Int32) then
((1 : Int32))
else
((0 : Int32))) fun x73 =>
zl (if x73 = (0 : Int32) then
((-1 : Int32))
else
(x57)) fun x76 =>
zl (uI J53 81 24 x76) fun J78 =>
zl (uI J78 81 22 ((J78 81 22) + (1 : Int32))) fun J80 =>
some (J80)
else
f12_next_L230 (f12_next_B309) zF (0 : Int32) J53
else
f12_next_L103 (f12_next_B146) zF J53
else none
def f12_next    (I : zMI) : Option (zMI) :=
f12_next_L0 (f12_next_B52) zF I
def f12_rank   (l0 : Int32)  : Option (Int32) :=
zl (if l0 = (0 : Int32) then
((0 : Int32))
else
if l0 = (11 : Int32) then
((1 : Int32))
else
if l0 = (12 : Int32) then
((2 : Int32))
else
if l0 = (13 : Int32) then
((3 : Int32))
else
if (15 : Int32) < l0 then
if (17 : Int32) < l0 then
if l0 = (18 : Int32) then
((6 : Int32))
else
((7 : Int32))
else
((5 : Int32))
else
((4 : Int32))) fun x8 =>
some (x8)
def f12_puts   (l1 : Int32) (I : zMI) : Option (zMI) :=
if zib (((200 : Int32) * (I 81 11)) + (I 81 30)) 1200 = true then
zl (uI I 88 (((200 : Int32) * (I 81 11)) + (I 81 30)).toNatClampNeg l1) fun J2 =>
zl (uI J2 81 30 ((J2 81 30) + (1 : Int32))) fun J4 =>
some (J4)
else none
def f12_unwinds_L0    : Nat → Int32 → zMI → Option (zMI)
  | 0, _, _ => none
  | q + 1, l1, I =>
    if (I 81 28) ≤ (0 : Int32) then
    some (I)
    else
    if zib ((I 81 28) - (1 : Int32)) 200 = true then
    zb (f12_rank (I 96 ((I 81 28) - (1 : Int32)).toNatClampNeg)) fun p3 =>
    if p3 < l1 then
    some (I)
    else
    zl (uI I 81 28 ((I 81 28) - (1 : Int32))) fun J6 =>
    if zib (J6 81 28) 200 = true then
    zl (J6 96 (J6 81 28).toNatClampNeg) fun x9 =>
    zl (if x9 = (13 : Int32) then
    ((1 : Int32))
    else
    if x9 = (19 : Int32) then
    ((1 : Int32))
    else
    ((0 : Int32))) fun x13 =>
    zl (uI J6 81 29 ((J6 81 29) - x13)) fun J15 =>
    zb (f12_puts x9 J15) fun p17 =>
    f12_unwinds_L0  q l1 p17
    else none
    else none
def f12_unwinds   (l1 : Int32) (I : zMI) : Option (zMI) :=
f12_unwinds_L0 zF l1 I
def f12_holds   (l1 : Int32) (I : zMI) : Option (zMI) :=
if zib (I 81 28) 200 = true then
zl (uI I 96 (I 81 28).toNatClampNeg l1) fun J2 =>
zl (uI J2 81 28 ((J2 81 28) + (1 : Int32))) fun J4 =>
some (J4)
else none
def f12_opensOne   (l1 : Int32) (I : zMI) : Option (Int32 × zMI) :=
if (I 81 29) = (5 : Int32) then
some ((0 : Int32), I)
else
zl (uI I 81 29 ((I 81 29) + (1 : Int32))) fun J2 =>
zb (f12_holds l1 J2) fun p4 =>
some ((1 : Int32), p4)
def f12_between_B17    (l1 : Int32) (s1 : Int32) (I : zMI) : Option (Int32 × zMI) :=
zb (f12_unwinds s1 I) fun p1 =>
zb (f12_rank l1) fun p3 =>
if p3 = (4 : Int32) then
if (p1 81 28) ≤ (0 : Int32) then
zb (f12_holds l1 p1) fun p9 =>
some ((1 : Int32), p9)
else
if zib ((p1 81 28) - (1 : Int32)) 200 = true then
zb (f12_rank (p1 96 ((p1 81 28) - (1 : Int32)).toNatClampNeg)) fun p12 =>
if p12 = (4 : Int32) then
some ((0 : Int32), p1)
else
zb (f12_holds l1 p1) fun p15 =>
some ((1 : Int32), p15)
else none
else
zb (f12_holds l1 p1) fun p6 =>
some ((1 : Int32), p6)
def f12_between   (l1 : Int32) (I : zMI) : Option (Int32 × zMI) :=
zb (f12_rank l1) fun p17 =>
if p17 = (4 : Int32) then
f12_between_B17 l1 (5 : Int32) I
else
zb (f12_rank l1) fun p20 =>
f12_between_B17 l1 p20 I
def f12_signOf (I : zMI)    : Option (Int32) :=
zl (if (I 81 24) = (4 : Int32) then
((11 : Int32))
else
if (I 81 24) = (5 : Int32) then
((12 : Int32))
else
if (I 81 24) = (60 : Int32) then
((14 : Int32))
else
if (I 81 24) = (61 : Int32) then
((15 : Int32))
else
if (I 81 24) = (43 : Int32) then
((16 : Int32))
else
if (I 81 24) = (45 : Int32) then
((17 : Int32))
else
if (I 81 24) = (42 : Int32) then
((18 : Int32))
else
((-1 : Int32))) fun x8 =>
some (x8)
def f12_eRead_B61   (k14 : Int32 → Int32 → zMI → Option (Int32 × zMI)) (l2 : Int32) (s1 : Int32) (I : zMI) : Option (Int32 × zMI) :=
zb (f12_puts s1 I) fun p1 =>
zb (f12_unwinds (7 : Int32) p1) fun p3 =>
k14 (0 : Int32) l2 p3
def f12_eRead_B38   (k14 : Int32 → Int32 → zMI → Option (Int32 × zMI)) (l2 : Int32) (I : zMI) : Option (Int32 × zMI) :=
if (I 81 24) = (1 : Int32) then
f12_eRead_B61 k14 l2 ((100000 : Int32) + (I 81 25)) I
else
f12_eRead_B61 k14 l2 (I 81 25) I
def f12_eRead_B99   (k14 : Int32 → Int32 → zMI → Option (Int32 × zMI)) (l1 : Int32) (I : zMI) : Option (Int32 × zMI) :=
if (I 81 24) = (45 : Int32) then
zb (f12_opensOne (19 : Int32) I) fun p11 =>
if p11.1 = (0 : Int32) then
some ((0 : Int32), p11.2)
else
k14 l1 (0 : Int32) p11.2
else
if (I 81 24) = (40 : Int32) then
zb (f12_opensOne (0 : Int32) I) fun p8 =>
if p8.1 = (0 : Int32) then
some ((0 : Int32), p8.2)
else
k14 l1 (1 : Int32) p8.2
else
some ((0 : Int32), I)
def f12_eRead_L14   (k159 : zMI → Option (Int32 × zMI)) : Nat → Int32 → Int32 → zMI → Option (Int32 × zMI)
  | 0, _, _, _ => none
  | q + 1, l1, l2, I =>
    zb (f12_next I) fun p14 =>
    if l1 = (0 : Int32) then
    if (p14 81 24) = (59 : Int32) then
    k159 p14
    else
    if (p14 81 24) = (41 : Int32) then
    zb (f12_unwinds (1 : Int32) p14) fun p29 =>
    if (p29 81 28) = (0 : Int32) then
    some ((0 : Int32), p29)
    else
    zl (uI p29 81 28 ((p29 81 28) - (1 : Int32))) fun J32 =>
    zl (uI J32 81 29 ((J32 81 29) - (1 : Int32))) fun J34 =>
    zb (f12_unwinds (7 : Int32) J34) fun p36 =>
    f12_eRead_L14 k159 q l1 l2 p36
    else
    zb (f12_signOf p14) fun p19 =>
    if p19 = (-1 : Int32) then
    some ((0 : Int32), p14)
    else
    zb (f12_between p19 p14) fun p22 =>
    if p22.1 = (0 : Int32) then
    some ((0 : Int32), p22.2)
    else
    zl (if (12 : Int32) < p19 then
    ((0 : Int32))
    else
    ((1 : Int32))) fun x26 =>
    f12_eRead_L14 k159 q (1 : Int32) x26 p22.2
    else
    if (p14 81 24) = (1 : Int32) then
    f12_eRead_B38 (f12_eRead_L14 k159 q) l2 p14
    else
    if (p14 81 24) = (2 : Int32) then
    f12_eRead_B38 (f12_eRead_L14 k159 q) l2 p14
    else
    if (p14 81 24) = (6 : Int32) then
    if l2 = (0 : Int32) then
    f12_eRead_B99 (f12_eRead_L14 k159 q) l1 p14
    else
    zb (f12_opensOne (13 : Int32) p14) fun p42 =>
    if p42.1 = (0 : Int32) then
    some ((0 : Int32), p42.2)
    else
    f12_eRead_L14 k159 q l1 l2 p42.2
    else
    f12_eRead_B99 (f12_eRead_L14 k159 q) l1 p14
def f12_eRead_B159     (I : zMI) : Option (Int32 × zMI) :=
zb (f12_unwinds (1 : Int32) I) fun p45 =>
zl (if (p45 81 28) = (0 : Int32) then
((1 : Int32))
else
((0 : Int32))) fun x48 =>
if zbB x48 = true then
some (x48, p45)
else none
def f12_eRead    (I : zMI) : Option (Int32 × zMI) :=
zl (uI I 81 28 (0 : Int32)) fun J52 =>
zl (uI J52 81 29 (0 : Int32)) fun J54 =>
f12_eRead_L14 (f12_eRead_B159) zF (1 : Int32) (1 : Int32) J54
def f12_text_B94   (k26 : Int32 → Int32 → zMI → Option (Int32 × zMI)) (l2 : Int32) (s0 : Int32) (I : zMI) : Option (Int32 × zMI) :=
k26 s0 (l2 + (1 : Int32)) I
def f12_text_B93   (k26 : Int32 → Int32 → zMI → Option (Int32 × zMI)) (l2 : Int32) (I : zMI) : Option (Int32 × zMI) :=
f12_text_B94 k26 l2 (0 : Int32) I
def f12_text_L26   (k101 : Int32 → zMI → Option (Int32 × zMI)) : Nat → Int32 → Int32 → zMI → Option (Int32 × zMI)
  | 0, _, _, _ => none
  | q + 1, l1, l2, I =>
    if (3 : Int32) ≤ l2 then
    k101 l1 I
    else
    if l1 = (0 : Int32) then
    k101 l1 I
    else
    zb (f12_next I) fun p3 =>
    zl (if (p3 81 24) = (3 : Int32) then
    if (p3 81 25) = l2 then
    ((1 : Int32))
    else
    ((0 : Int32))
    else
    ((0 : Int32))) fun x7 =>
    if zib (((4 : Int32) * (p3 81 11)) + l2) 24 = true then
    zl (uI p3 89 (((4 : Int32) * (p3 81 11)) + l2).toNatClampNeg (p3 81 30)) fun J10 =>
    if x7 = (0 : Int32) then
    f12_text_B93 (f12_text_L26 k101 q) l2 J10
    else
    zb (f12_eRead J10) fun p13 =>
    if p13.1 = (0 : Int32) then
    f12_text_B93 (f12_text_L26 k101 q) l2 p13.2
    else
    f12_text_B94 (f12_text_L26 k101 q) l2 (1 : Int32) p13.2
    else none
def f12_text_B122    (l1 : Int32) (I : zMI) : Option (Int32 × zMI) :=
if zib (((4 : Int32) * (I 81 11)) + (3 : Int32)) 24 = true then
zl (uI I 89 (((4 : Int32) * (I 81 11)) + (3 : Int32)).toNatClampNeg (I 81 30)) fun J18 =>
zl (uI J18 81 8 (0 : Int32)) fun J20 =>
if l1 = (0 : Int32) then
some (((-100 : Int32) - (J20 81 23)), J20)
else
zl (uI J20 81 11 ((J20 81 11) + (1 : Int32))) fun J23 =>
some (((J23 81 11) - (1 : Int32)), J23)
else none
def f12_text_B101    (l1 : Int32) (I : zMI) : Option (Int32 × zMI) :=
if l1 = (0 : Int32) then
f12_text_B122 l1 I
else
zb (f12_next I) fun p26 =>
zl (if (p26 81 24) = (0 : Int32) then
((1 : Int32))
else
((0 : Int32))) fun x29 =>
f12_text_B122 x29 p26
def f12_text    (I : zMI) : Option (Int32 × zMI) :=
if (I 81 11) = (6 : Int32) then
some ((-4 : Int32), I)
else
zl (uI I 81 22 (0 : Int32)) fun J33 =>
zl (uI J33 81 30 (0 : Int32)) fun J35 =>
f12_text_L26 (f12_text_B101) zF (1 : Int32) (0 : Int32) J35
def f12_two   (l0 : Int32) (l1 : Int32) (l2 : Int32)  : Option (Int32) :=
if l0 = (11 : Int32) then
zl (if l1 = (0 : Int32) then
if l2 = (0 : Int32) then
((0 : Int32))
else
((1 : Int32))
else
((1 : Int32))) fun x4 =>
some (x4)
else
if l0 = (12 : Int32) then
zl (if l1 = (0 : Int32) then
((0 : Int32))
else
if l2 = (0 : Int32) then
((0 : Int32))
else
((1 : Int32))) fun x10 =>
some (x10)
else
if l0 = (14 : Int32) then
zl (if l2 ≤ l1 then
((0 : Int32))
else
((1 : Int32))) fun x15 =>
some (x15)
else
if l0 = (15 : Int32) then
zl (if l1 = l2 then
((1 : Int32))
else
((0 : Int32))) fun x20 =>
some (x20)
else
if l0 = (16 : Int32) then
some ((l1 + l2))
else
if l0 = (17 : Int32) then
some ((l1 - l2))
else
some ((l1 * l2))
def f12_says_B191   (k16 : Int32 → Int32 → Int32 → zMI → Option (Int32 × zMI)) (l1 : Int32) (l2 : Int32) (l3 : Int32) (I : zMI) : Option (Int32 × zMI) :=
k16 l1 l2 (l3 + (1 : Int32)) I
def f12_says_B93   (k16 : Int32 → Int32 → Int32 → zMI → Option (Int32 × zMI)) (l1 : Int32) (l2 : Int32) (l3 : Int32) (s1 : Int32) (s2 : Int32) (I : zMI) : Option (Int32 × zMI) :=
if zib s1 200 = true then
zl (uI I 97 s1.toNatClampNeg s2) fun J2 =>
f12_says_B191 k16 l1 (l2 + (1 : Int32)) l3 J2
else none
def f12_says_B66   (k16 : Int32 → Int32 → Int32 → zMI → Option (Int32 × zMI)) (l1 : Int32) (l2 : Int32) (l3 : Int32) (l4 : Int32) (I : zMI) : Option (Int32 × zMI) :=
if (11 : Int32) ≤ l4 then
f12_says_B93 k16 l1 l2 l3 l2 (l4 - (100000 : Int32)) I
else
if zib l4 6 = true then
f12_says_B93 k16 l1 l2 l3 l2 (I 98 l4.toNatClampNeg) I
else none
def f12_says_L16    : Nat → Int32 → Int32 → Int32 → zMI → Option (Int32 × zMI)
  | 0, _, _, _, _ => none
  | q + 1, l1, l2, l3, I =>
    if zib ((((4 : Int32) * (I 81 12)) + l1) + (1 : Int32)) 24 = true then
    if (I 89 ((((4 : Int32) * (I 81 12)) + l1) + (1 : Int32)).toNatClampNeg) ≤ l3 then
    if zib (0 : Int32) 200 = true then
    some ((I 97 (0 : Int32).toNatClampNeg), I)
    else none
    else
    if zib (((200 : Int32) * (I 81 12)) + l3) 1200 = true then
    zl (I 88 (((200 : Int32) * (I 81 12)) + l3).toNatClampNeg) fun x10 =>
    if (100000 : Int32) ≤ x10 then
    f12_says_B66 (f12_says_L16  q) l1 l2 l3 x10 I
    else
    if (11 : Int32) ≤ x10 then
    if x10 = (13 : Int32) then
    if zib (l2 - (1 : Int32)) 200 = true then
    zl (if (I 97 (l2 - (1 : Int32)).toNatClampNeg) = (0 : Int32) then
    ((1 : Int32))
    else
    ((0 : Int32))) fun x27 =>
    zl (uI I 97 (l2 - (1 : Int32)).toNatClampNeg x27) fun J29 =>
    f12_says_B191 (f12_says_L16  q) l1 l2 l3 J29
    else none
    else
    if x10 = (19 : Int32) then
    if zib (l2 - (1 : Int32)) 200 = true then
    zl (uI I 97 (l2 - (1 : Int32)).toNatClampNeg (-(I 97 (l2 - (1 : Int32)).toNatClampNeg))) fun J23 =>
    f12_says_B191 (f12_says_L16  q) l1 l2 l3 J23
    else none
    else
    if zib ((l2 + (-1 : Int32)) - (1 : Int32)) 200 = true then
    if zib (l2 + (-1 : Int32)) 200 = true then
    zb (f12_two x10 (I 97 ((l2 + (-1 : Int32)) - (1 : Int32)).toNatClampNeg) (I 97 (l2 + (-1 : Int32)).toNatClampNeg)) fun p18 =>
    zl (uI I 97 ((l2 + (-1 : Int32)) - (1 : Int32)).toNatClampNeg p18) fun J20 =>
    f12_says_B191 (f12_says_L16  q) l1 (l2 + (-1 : Int32)) l3 J20
    else none
    else none
    else
    f12_says_B66 (f12_says_L16  q) l1 l2 l3 x10 I
    else none
    else none
def f12_says   (l1 : Int32) (I : zMI) : Option (Int32 × zMI) :=
if zib (((4 : Int32) * (I 81 12)) + l1) 24 = true then
zl (I 89 (((4 : Int32) * (I 81 12)) + l1).toNatClampNeg) fun x33 =>
f12_says_L16 zF l1 (0 : Int32) x33 I
else none
def f12_force   (l1 : Int32) (I : zMI) : Option (Int32 × zMI) :=
zb (f12_in l1 (0 : Int32) ((I 81 11) - (1 : Int32))) fun p1 =>
if p1 = (0 : Int32) then
some ((-2 : Int32), I)
else
zl (uI I 81 12 l1) fun J4 =>
some ((I 81 12), J4)
def f12_asksOf   (l1 : Int32) (l2 : Int32) (l3 : Int32) (l4 : Int32) (l5 : Int32) (I : zMI) : Option (Int32 × zMI) :=
if zib (0 : Int32) 6 = true then
zl (uI I 98 (0 : Int32).toNatClampNeg l2) fun J2 =>
if zib (1 : Int32) 6 = true then
zl (uI J2 98 (1 : Int32).toNatClampNeg l4) fun J5 =>
if zib l4 5 = true then
if zib (2 : Int32) 6 = true then
zl (uI J5 98 (2 : Int32).toNatClampNeg (J5 85 l4.toNatClampNeg)) fun J9 =>
if zib (3 : Int32) 6 = true then
zl (uI J9 98 (3 : Int32).toNatClampNeg l3) fun J12 =>
if zib (4 : Int32) 6 = true then
zl (uI J12 98 (4 : Int32).toNatClampNeg l5) fun J15 =>
if zib (5 : Int32) 6 = true then
zl (uI J15 98 (5 : Int32).toNatClampNeg (J15 81 3)) fun J18 =>
zb (f12_says l1 J18) fun p20 =>
zl (if l1 = (2 : Int32) then
((0 : Int32))
else
((1 : Int32))) fun x23 =>
zl (if l1 = (2 : Int32) then
((99 : Int32))
else
((20 : Int32))) fun x26 =>
zb (f12_within p20.1 x23 x26) fun p28 =>
some (p28, p20.2)
else none
else none
else none
else none
else none
else none
else none
def f12_asks_B52    (l1 : Int32) (l2 : Int32) (l3 : Int32) (s0 : Int32) (I : zMI) : Option (Int32 × zMI) :=
if s0 = (0 : Int32) then
some ((-2 : Int32), I)
else
zb (f12_asksOf l1 (l2 / (1000 : Int32)) (l2 - l2 / (1000 : Int32) * (1000 : Int32)) (l3 / (1000 : Int32)) (l3 - l3 / (1000 : Int32) * (1000 : Int32)) I) fun p2 =>
some (p2.1, p2.2)
def f12_asks_B51    (l1 : Int32) (l2 : Int32) (l3 : Int32) (I : zMI) : Option (Int32 × zMI) :=
f12_asks_B52 l1 l2 l3 (0 : Int32) I
def f12_asks   (l1 : Int32) (l2 : Int32) (l3 : Int32) (I : zMI) : Option (Int32 × zMI) :=
zb (f12_in l1 (0 : Int32) (2 : Int32)) fun p4 =>
if p4 = (0 : Int32) then
f12_asks_B51 l1 l2 l3 I
else
zb (f12_in l2 (0 : Int32) (8200 : Int32)) fun p7 =>
if p7 = (0 : Int32) then
f12_asks_B51 l1 l2 l3 I
else
if (200 : Int32) < (l2 - l2 / (1000 : Int32) * (1000 : Int32)) then
f12_asks_B51 l1 l2 l3 I
else
if l3 < (0 : Int32) then
f12_asks_B51 l1 l2 l3 I
else
zb (f12_isWalker I (l3 / (1000 : Int32))) fun p12 =>
if p12 = (0 : Int32) then
f12_asks_B51 l1 l2 l3 I
else
f12_asks_B52 l1 l2 l3 (1 : Int32) I
def f12_walker   (l1 : Int32) (l2 : Int32) (l3 : Int32) (I : zMI) : Option (Int32 × zMI) :=
zb (f12_in l1 (0 : Int32) (5 : Int32)) fun p1 =>
if p1 = (0 : Int32) then
some ((-2 : Int32), I)
else
zb (f12_in l2 (0 : Int32) (9 : Int32)) fun p4 =>
if p4 = (0 : Int32) then
some ((-2 : Int32), I)
else
zb (f12_isHeap l3) fun p7 =>
if p7 = (0 : Int32) then
some ((-2 : Int32), I)
else
if (I 81 3) = (5 : Int32) then
some ((-4 : Int32), I)
else
if zib (I 81 3) 5 = true then
zl (uI I 84 (I 81 3).toNatClampNeg l1) fun J12 =>
if zib (J12 81 3) 5 = true then
zl (uI J12 85 (J12 81 3).toNatClampNeg l2) fun J15 =>
if zib (J15 81 3) 5 = true then
zl (uI J15 86 (J15 81 3).toNatClampNeg l3) fun J18 =>
zl (uI J18 81 3 ((J18 81 3) + (1 : Int32))) fun J20 =>
some (((J20 81 3) - (1 : Int32)), J20)
else none
else none
else none
def f12_begin   (l1 : Int32) (l2 : Int32) (I : zMI) : Option (Int32 × zMI) :=
zb (f12_isWalker I l1) fun p1 =>
if p1 = (0 : Int32) then
some ((-5 : Int32), I)
else
zb (f12_isHeap l2) fun p4 =>
if p4 = (0 : Int32) then
some ((-7 : Int32), I)
else
if zib l1 5 = true then
zl (uI I 86 l1.toNatClampNeg l2) fun J8 =>
some ((I 86 l1.toNatClampNeg), J8)
else none
def f12_told (I : zMI)  (l1 : Int32) (l2 : Int32)  : Option (Int32) :=
zb (f12_isWalker I l1) fun p1 =>
if p1 = (0 : Int32) then
some ((-5 : Int32))
else
if l2 = (0 : Int32) then
if zib l1 5 = true then
some ((I 84 l1.toNatClampNeg))
else none
else
if l2 = (1 : Int32) then
if zib l1 5 = true then
some ((I 85 l1.toNatClampNeg))
else none
else
if l2 = (2 : Int32) then
if zib l1 5 = true then
some ((I 86 l1.toNatClampNeg))
else none
else
if l2 = (3 : Int32) then
if zib l1 5 = true then
zl (if (I 84 l1.toNatClampNeg) = (3 : Int32) then
((0 : Int32))
else
((1 : Int32))) fun x13 =>
some (x13)
else none
else
some ((-7 : Int32))
def f12_takesOf_B120    (l5 : Int32) (I : zMI) : Option (Int32 × zMI) :=
zl (if (1 : Int32) ≤ l5 then
(l5)
else
((1 : Int32))) fun x2 =>
some (x2, I)
def f12_takesOf   (l1 : Int32) (l2 : Int32) (l3 : Int32) (l4 : Int32) (I : zMI) : Option (Int32 × zMI) :=
zb (f12_asksOf (0 : Int32) l2 l3 l1 l4 I) fun p5 =>
if zib l1 5 = true then
zl (p5.2 85 l1.toNatClampNeg) fun x8 =>
if (p5.2 84 l1.toNatClampNeg) = (2 : Int32) then
zl (p5.1 + (x8 / (2 : Int32))) fun x11 =>
f12_takesOf_B120 x11 p5.2
else
if (p5.2 84 l1.toNatClampNeg) = (3 : Int32) then
f12_takesOf_B120 (p5.1 + (1 : Int32)) p5.2
else
if (p5.2 84 l1.toNatClampNeg) = (4 : Int32) then
zl (if l4 ≤ x8 then
((1 : Int32))
else
((2 : Int32))) fun x16 =>
zl (p5.1 + ((x8 / (2 : Int32)) + x16)) fun x18 =>
f12_takesOf_B120 x18 p5.2
else
if (p5.2 84 l1.toNatClampNeg) = (5 : Int32) then
zl (if l4 < x8 then
(p5.1)
else
((p5.1 / (2 : Int32)))) fun x23 =>
f12_takesOf_B120 x23 p5.2
else
f12_takesOf_B120 p5.1 p5.2
else none
def f12_stepsOf   (l1 : Int32) (l2 : Int32) (l3 : Int32) (l4 : Int32) (I : zMI) : Option (Int32 × zMI) :=
zb (f12_asksOf (1 : Int32) l2 l3 l1 l4 I) fun p1 =>
if zib l1 5 = true then
zl (if (p1.2 84 l1.toNatClampNeg) = (1 : Int32) then
((p1.1 - ((p1.2 85 l1.toNatClampNeg) / (3 : Int32))))
else
if (p1.2 84 l1.toNatClampNeg) = (3 : Int32) then
((p1.1 - ((p1.2 85 l1.toNatClampNeg) / (3 : Int32))))
else
if (p1.2 84 l1.toNatClampNeg) = (4 : Int32) then
(((2 : Int32) * p1.1))
else
(p1.1)) fun x7 =>
zl (if (1 : Int32) ≤ x7 then
(x7)
else
((1 : Int32))) fun x10 =>
some (x10, p1.2)
else none
def f12_begins_L2   (k67 : zMI → Option (zMI)) : Nat → Int32 → zMI → Option (zMI)
  | 0, _, _ => none
  | q + 1, l1, I =>
    if (5 : Int32) ≤ l1 then
    k67 I
    else
    if zib l1 5 = true then
    zl (uI I 100 l1.toNatClampNeg (I 86 l1.toNatClampNeg)) fun J3 =>
    zl (uI J3 101 l1.toNatClampNeg (1 : Int32)) fun J5 =>
    zl (uI J5 102 l1.toNatClampNeg (0 : Int32)) fun J7 =>
    zl (uI J7 103 l1.toNatClampNeg (0 : Int32)) fun J9 =>
    zl (uI J9 104 l1.toNatClampNeg (0 : Int32)) fun J11 =>
    zl (uI J11 105 l1.toNatClampNeg (0 : Int32)) fun J13 =>
    zl (uI J13 106 l1.toNatClampNeg (0 : Int32)) fun J15 =>
    f12_begins_L2 k67 q (l1 + (1 : Int32)) J15
    else none
def f12_begins_L69   (k107 : zMI → Option (zMI)) : Nat → Int32 → zMI → Option (zMI)
  | 0, _, _ => none
  | q + 1, l1, I =>
    if (9 : Int32) ≤ l1 then
    k107 I
    else
    if zib l1 9 = true then
    zl (uI I 107 l1.toNatClampNeg (I 82 l1.toNatClampNeg)) fun J19 =>
    zl (uI J19 108 l1.toNatClampNeg (0 : Int32)) fun J21 =>
    zl (uI J21 109 l1.toNatClampNeg (-1 : Int32)) fun J23 =>
    f12_begins_L69 k107 q (l1 + (1 : Int32)) J23
    else none
def f12_begins_B107     (I : zMI) : Option (zMI) :=
zl (uI I 81 45 (0 : Int32)) fun J25 =>
zl (uI J25 81 47 (0 : Int32)) fun J27 =>
zl (uI J27 81 48 (-1 : Int32)) fun J29 =>
some (J29)
def f12_begins_B67     (I : zMI) : Option (zMI) :=
f12_begins_L69 (f12_begins_B107) zF (0 : Int32) I
def f12_begins    (I : zMI) : Option (zMI) :=
f12_begins_L2 (f12_begins_B67) zF (0 : Int32) I
def f12_lifts_B102    (l1 : Int32) (l2 : Int32) (l3 : Int32) (s0 : Int32) (I : zMI) : Option (zMI) :=
if zib l3 9 = true then
zl (if s0 = (0 : Int32) then
((1 : Int32))
else
((2 : Int32))) fun x3 =>
zl (uI I 107 l3.toNatClampNeg ((I 107 l3.toNatClampNeg) - x3)) fun J5 =>
zb (if s0 = (0 : Int32) then
if zib l1 5 = true then
some ((J5 106 l1.toNatClampNeg))
else none
else
if zib l1 5 = true then
if (J5 106 l1.toNatClampNeg) = (0 : Int32) then
some ((1 : Int32))
else
some ((J5 106 l1.toNatClampNeg))
else none) fun x11 =>
if zib l1 5 = true then
zl (uI J5 106 l1.toNatClampNeg x11) fun J14 =>
zl (if (J14 107 l3.toNatClampNeg) = (0 : Int32) then
(l2)
else
((J14 109 l3.toNatClampNeg))) fun x17 =>
zl (uI J14 109 l3.toNatClampNeg x17) fun J19 =>
some (J19)
else none
else none
def f12_lifts_B101    (l1 : Int32) (l2 : Int32) (l3 : Int32) (I : zMI) : Option (zMI) :=
f12_lifts_B102 l1 l2 l3 (0 : Int32) I
def f12_lifts   (l1 : Int32) (l2 : Int32) (I : zMI) : Option (zMI) :=
if zib l1 5 = true then
zl (uI I 103 l1.toNatClampNeg ((I 103 l1.toNatClampNeg) + (1 : Int32))) fun J25 =>
if zib (I 100 l1.toNatClampNeg) 9 = true then
if (J25 107 (I 100 l1.toNatClampNeg).toNatClampNeg) = (0 : Int32) then
zl (uI J25 81 45 ((J25 81 45) ||| ((1 : Int32) <<< ((I 100 l1.toNatClampNeg) &&& 31)))) fun J37 =>
zl (uI J37 106 l1.toNatClampNeg (2 : Int32)) fun J39 =>
some (J39)
else
zl (uI J25 108 (I 100 l1.toNatClampNeg).toNatClampNeg ((J25 108 (I 100 l1.toNatClampNeg).toNatClampNeg) + (1 : Int32))) fun J29 =>
if (J29 83 (I 100 l1.toNatClampNeg).toNatClampNeg) = (0 : Int32) then
f12_lifts_B101 l1 l2 (I 100 l1.toNatClampNeg) J29
else
if (J29 107 (I 100 l1.toNatClampNeg).toNatClampNeg) < (2 : Int32) then
f12_lifts_B101 l1 l2 (I 100 l1.toNatClampNeg) J29
else
zb (f12_within (J29 83 (I 100 l1.toNatClampNeg).toNatClampNeg) (1 : Int32) (9 : Int32)) fun p33 =>
if ¬ p33 = (0 : Int32) then
if ((J29 108 (I 100 l1.toNatClampNeg).toNatClampNeg) - (J29 108 (I 100 l1.toNatClampNeg).toNatClampNeg) / p33 * p33) = (0 : Int32) then
f12_lifts_B102 l1 l2 (I 100 l1.toNatClampNeg) (1 : Int32) J29
else
f12_lifts_B101 l1 l2 (I 100 l1.toNatClampNeg) J29
else none
else none
else none
def f12_makes   (l1 : Int32) (l2 : Int32) (I : zMI) : Option (zMI) :=
if zib l1 5 = true then
if zib (I 81 47) 400 = true then
zl (uI I 110 (I 81 47).toNatClampNeg (I 106 l1.toNatClampNeg)) fun J3 =>
zl (uI J3 81 47 ((J3 81 47) + (1 : Int32))) fun J5 =>
zl (if (J5 81 47) = (J5 81 2) then
(l2)
else
((J5 81 48))) fun x8 =>
zl (uI J5 81 48 x8) fun J10 =>
zl (uI J10 104 l1.toNatClampNeg ((J10 104 l1.toNatClampNeg) + (1 : Int32))) fun J12 =>
zl (uI J12 103 l1.toNatClampNeg (0 : Int32)) fun J14 =>
zl (uI J14 106 l1.toNatClampNeg (0 : Int32)) fun J16 =>
some (J16)
else none
else none
def f12_mustWait_B61 (I : zMI)  (k14 : Int32 → Int32 → Option (Int32)) (l1 : Int32) (l2 : Int32)  : Option (Int32) :=
k14 l1 (l2 + (1 : Int32))
def f12_mustWait_L14 (I : zMI)   : Nat → Int32 → Int32 → Option (Int32)
  | 0, _, _ => none
  | q + 1, l1, l2 =>
    if (I 81 34) ≤ l2 then
    some ((0 : Int32))
    else
    if zib l2 5 = true then
    if (I 99 l2.toNatClampNeg) = l1 then
    f12_mustWait_B61 I (f12_mustWait_L14 I q) l1 l2
    else
    if zib (I 99 l2.toNatClampNeg) 5 = true then
    if (I 101 (I 99 l2.toNatClampNeg).toNatClampNeg) = (2 : Int32) then
    if zib l1 5 = true then
    if (I 100 (I 99 l2.toNatClampNeg).toNatClampNeg) = (I 100 l1.toNatClampNeg) then
    some ((1 : Int32))
    else
    f12_mustWait_B61 I (f12_mustWait_L14 I q) l1 l2
    else none
    else
    f12_mustWait_B61 I (f12_mustWait_L14 I q) l1 l2
    else none
    else none
def f12_mustWait (I : zMI)  (l1 : Int32)  : Option (Int32) :=
if zib l1 5 = true then
if (I 84 l1.toNatClampNeg) = (3 : Int32) then
some ((0 : Int32))
else
f12_mustWait_L14 I zF l1 (0 : Int32)
else none
def f12_takesOn_B43    (l1 : Int32) (I : zMI) : Option (zMI) :=
if zib l1 5 = true then
if zib (I 100 l1.toNatClampNeg) 9 = true then
zb (f12_stepsOf l1 (I 100 l1.toNatClampNeg) (I 107 (I 100 l1.toNatClampNeg).toNatClampNeg) (I 104 l1.toNatClampNeg) I) fun p3 =>
zl (uI p3.2 102 l1.toNatClampNeg p3.1) fun J5 =>
zl (uI J5 100 l1.toNatClampNeg (((I 100 l1.toNatClampNeg) + (1 : Int32)) - ((I 100 l1.toNatClampNeg) + (1 : Int32)) / (9 : Int32) * (9 : Int32))) fun J7 =>
zl (uI J7 101 l1.toNatClampNeg (0 : Int32)) fun J9 =>
some (J9)
else none
else none
def f12_takesOn   (l1 : Int32) (l2 : Int32) (I : zMI) : Option (zMI) :=
if zib l1 5 = true then
zl (uI I 102 l1.toNatClampNeg ((I 102 l1.toNatClampNeg) - (1 : Int32))) fun J12 =>
if (J12 102 l1.toNatClampNeg) ≤ (0 : Int32) then
zb (f12_lifts l1 l2 J12) fun p15 =>
if (p15 103 l1.toNatClampNeg) = (9 : Int32) then
zb (f12_makes l1 l2 p15) fun p18 =>
f12_takesOn_B43 l1 p18
else
f12_takesOn_B43 l1 p15
else
some (J12)
else none
def f12_waitsOn   (l1 : Int32) (I : zMI) : Option (zMI) :=
zb (f12_mustWait I l1) fun p1 =>
if p1 = (0 : Int32) then
if zib l1 5 = true then
zl (uI I 101 l1.toNatClampNeg (2 : Int32)) fun J5 =>
if zib (J5 100 l1.toNatClampNeg) 9 = true then
zb (f12_takesOf l1 (J5 100 l1.toNatClampNeg) (J5 107 (J5 100 l1.toNatClampNeg).toNatClampNeg) (J5 104 l1.toNatClampNeg) J5) fun p8 =>
zl (uI p8.2 102 l1.toNatClampNeg p8.1) fun J10 =>
some (J10)
else none
else none
else
if zib l1 5 = true then
zl (uI I 105 l1.toNatClampNeg ((I 105 l1.toNatClampNeg) + (1 : Int32))) fun J13 =>
some (J13)
else none
def f12_second_B90   (k2 : Int32 → Int32 → zMI → Option (zMI)) (l1 : Int32) (l2 : Int32) (I : zMI) : Option (zMI) :=
k2 l1 (l2 + (1 : Int32)) I
def f12_second_B78   (k2 : Int32 → Int32 → zMI → Option (zMI)) (l1 : Int32) (l2 : Int32) (l3 : Int32) (I : zMI) : Option (zMI) :=
if zib l3 5 = true then
zl (uI I 101 l3.toNatClampNeg (1 : Int32)) fun J2 =>
zb (f12_waitsOn l3 J2) fun p4 =>
f12_second_B90 k2 l1 l2 p4
else none
def f12_second_L2    : Nat → Int32 → Int32 → zMI → Option (zMI)
  | 0, _, _, _ => none
  | q + 1, l1, l2, I =>
    if (I 81 34) ≤ l2 then
    some (I)
    else
    if zib l2 5 = true then
    if zib (I 99 l2.toNatClampNeg) 5 = true then
    if (I 101 (I 99 l2.toNatClampNeg).toNatClampNeg) = (2 : Int32) then
    zb (f12_takesOn (I 99 l2.toNatClampNeg) l1 I) fun p18 =>
    f12_second_B90 (f12_second_L2  q) l1 l2 p18
    else
    zl (if (I 101 (I 99 l2.toNatClampNeg).toNatClampNeg) = (0 : Int32) then
    ((1 : Int32))
    else
    ((0 : Int32))) fun x11 =>
    zl (uI I 102 (I 99 l2.toNatClampNeg).toNatClampNeg ((I 102 (I 99 l2.toNatClampNeg).toNatClampNeg) - x11)) fun J13 =>
    if (J13 101 (I 99 l2.toNatClampNeg).toNatClampNeg) = (1 : Int32) then
    f12_second_B78 (f12_second_L2  q) l1 l2 (I 99 l2.toNatClampNeg) J13
    else
    if (J13 102 (I 99 l2.toNatClampNeg).toNatClampNeg) = (0 : Int32) then
    f12_second_B78 (f12_second_L2  q) l1 l2 (I 99 l2.toNatClampNeg) J13
    else
    f12_second_B90 (f12_second_L2  q) l1 l2 J13
    else none
    else none
def f12_second   (l1 : Int32) (I : zMI) : Option (zMI) :=
f12_second_L2 zF l1 (0 : Int32) I
def f12_goesFor_L6    : Nat → Int32 → Int32 → zMI → Option (zMI)
  | 0, _, _, _ => none
  | q + 1, l1, l2, I =>
    if l1 ≤ l2 then
    some (I)
    else
    zb (f12_second l2 I) fun p2 =>
    f12_goesFor_L6  q l1 (l2 + (1 : Int32)) p2
def f12_goesFor   (l1 : Int32) (I : zMI) : Option (zMI) :=
zb (f12_begins I) fun p4 =>
f12_goesFor_L6 zF l1 (0 : Int32) p4
def f12_orders_B40   (k7 : Int32 → Int32 → zMI → Option (zMI)) (l1 : Int32) (l2 : Int32) (I : zMI) : Option (zMI) :=
k7 l1 (l2 + (1 : Int32)) I
def f12_orders_L7    : Nat → Int32 → Int32 → zMI → Option (zMI)
  | 0, _, _, _ => none
  | q + 1, l1, l2, I =>
    if (I 81 3) ≤ l2 then
    some (I)
    else
    if l2 = l1 then
    f12_orders_B40 (f12_orders_L7  q) l1 l2 I
    else
    if zib (I 81 34) 5 = true then
    zl (uI I 99 (I 81 34).toNatClampNeg l2) fun J4 =>
    zl (uI J4 81 34 ((J4 81 34) + (1 : Int32))) fun J6 =>
    f12_orders_B40 (f12_orders_L7  q) l1 l2 J6
    else none
def f12_orders   (l1 : Int32) (I : zMI) : Option (zMI) :=
zl (uI I 81 34 (0 : Int32)) fun J8 =>
f12_orders_L7 zF l1 (0 : Int32) J8
def f12_goesPlain   (l1 : Int32) (I : zMI) : Option (zMI) :=
zb (f12_orders (-1 : Int32) I) fun p1 =>
zb (f12_goesFor l1 p1) fun p3 =>
some (p3)
def f12_howMany_L4 (I : zMI)   : Nat → Int32 → Int32 → Int32 → Option (Int32)
  | 0, _, _, _ => none
  | q + 1, l1, l2, l3 =>
    if (I 81 47) ≤ l3 then
    some (l2)
    else
    if zib l3 400 = true then
    zl (if (I 110 l3.toNatClampNeg) = l1 then
    ((1 : Int32))
    else
    ((0 : Int32))) fun x4 =>
    f12_howMany_L4 I q l1 (l2 + x4) (l3 + (1 : Int32))
    else none
def f12_howMany (I : zMI)  (l1 : Int32)  : Option (Int32) :=
f12_howMany_L4 I zF l1 (0 : Int32) (0 : Int32)
def f12_waitings_L4    : Nat → Int32 → Int32 → zMI → Option (Int32 × zMI)
  | 0, _, _, _ => none
  | q + 1, l1, l2, I =>
    if (I 81 3) ≤ l2 then
    some (l1, I)
    else
    if zib l2 5 = true then
    zb (f12_asksOf (2 : Int32) (0 : Int32) (0 : Int32) l2 (I 104 l2.toNatClampNeg) I) fun p3 =>
    zl (l1 + ((I 105 l2.toNatClampNeg) * p3.1)) fun x5 =>
    f12_waitings_L4  q x5 (l2 + (1 : Int32)) p3.2
    else none
def f12_waitings    (I : zMI) : Option (Int32 × zMI) :=
f12_waitings_L4 zF (0 : Int32) (0 : Int32) I
def f12_run   (l1 : Int32) (l2 : Int32) (I : zMI) : Option (Int32 × zMI) :=
zb (f12_areSeconds l1) fun p1 =>
if p1 = (0 : Int32) then
some ((-2 : Int32), I)
else
zb (f12_in l2 (0 : Int32) (4 : Int32)) fun p4 =>
if p4 = (0 : Int32) then
some ((-2 : Int32), I)
else
zb (f12_goesPlain l1 I) fun p7 =>
if l2 = (0 : Int32) then
some ((p7 81 47), p7)
else
if (3 : Int32) ≤ l2 then
if l2 = (3 : Int32) then
zb (f12_waitings p7) fun p12 =>
some (p12.1, p12.2)
else
some ((p7 81 48), p7)
else
zb (f12_howMany p7 l2) fun p14 =>
some (p14, p7)
def f12_one   (l1 : Int32) (l2 : Int32) (l3 : Int32) (I : zMI) : Option (Int32 × zMI) :=
zb (f12_isWalker I l1) fun p1 =>
if p1 = (0 : Int32) then
some ((-5 : Int32), I)
else
zb (f12_areSeconds l2) fun p4 =>
if p4 = (0 : Int32) then
some ((-7 : Int32), I)
else
zb (f12_in l3 (0 : Int32) (4 : Int32)) fun p7 =>
if p7 = (0 : Int32) then
some ((-7 : Int32), I)
else
zb (f12_goesPlain l2 I) fun p10 =>
zb (if l3 = (0 : Int32) then
if zib l1 5 = true then
some ((p10 100 l1.toNatClampNeg))
else none
else
if l3 = (1 : Int32) then
if zib l1 5 = true then
some ((p10 101 l1.toNatClampNeg))
else none
else
if l3 = (2 : Int32) then
if zib l1 5 = true then
some ((p10 104 l1.toNatClampNeg))
else none
else
if l3 = (3 : Int32) then
if zib l1 5 = true then
some ((p10 105 l1.toNatClampNeg))
else none
else
if zib l1 5 = true then
some ((p10 103 l1.toNatClampNeg))
else none) fun x21 =>
some (x21, p10)
def f12_height   (l1 : Int32) (l2 : Int32) (l3 : Int32) (I : zMI) : Option (Int32 × zMI) :=
zb (f12_isHeap l1) fun p1 =>
if p1 = (0 : Int32) then
some ((-6 : Int32), I)
else
zb (f12_areSeconds l2) fun p4 =>
if p4 = (0 : Int32) then
some ((-7 : Int32), I)
else
zb (f12_in l3 (0 : Int32) (1 : Int32)) fun p7 =>
if p7 = (0 : Int32) then
some ((-7 : Int32), I)
else
zb (f12_goesPlain l2 I) fun p10 =>
zb (if l3 = (0 : Int32) then
if zib l1 9 = true then
some ((p10 107 l1.toNatClampNeg))
else none
else
if zib l1 9 = true then
some ((p10 109 l1.toNatClampNeg))
else none) fun x15 =>
some (x15, p10)
def f12_go_L17    : Nat → Int32 → zMI → Option (Int32 × zMI)
  | 0, _, _ => none
  | q + 1, l2, I =>
    if (9 : Int32) ≤ l2 then
    some ((I 81 47), I)
    else
    if zib l2 9 = true then
    zl (uI I 82 l2.toNatClampNeg (I 107 l2.toNatClampNeg)) fun J3 =>
    f12_go_L17  q (l2 + (1 : Int32)) J3
    else none
def f12_go   (l1 : Int32) (I : zMI) : Option (Int32 × zMI) :=
zb (f12_areSeconds l1) fun p5 =>
if p5 = (0 : Int32) then
some ((-2 : Int32), I)
else
zb (f12_goesPlain l1 I) fun p8 =>
f12_go_L17 zF (0 : Int32) p8
def f12_offNumber_B30 (I : zMI)  (k4 : Int32 → Int32 → Option (Int32)) (l2 : Int32) (l3 : Int32)  : Option (Int32) :=
k4 l2 (l3 + (1 : Int32))
def f12_offNumber_L4 (I : zMI)   : Nat → Int32 → Int32 → Option (Int32)
  | 0, _, _ => none
  | q + 1, l2, l3 =>
    if (I 81 47) ≤ l3 then
    some ((-1 : Int32))
    else
    if zib l3 400 = true then
    if (I 110 l3.toNatClampNeg) = (0 : Int32) then
    f12_offNumber_B30 I (f12_offNumber_L4 I q) l2 l3
    else
    if l2 = (0 : Int32) then
    some (l3)
    else
    f12_offNumber_B30 I (f12_offNumber_L4 I q) (l2 + (-1 : Int32)) l3
    else none
def f12_offNumber (I : zMI)  (l1 : Int32)  : Option (Int32) :=
f12_offNumber_L4 I zF l1 (0 : Int32)
def f12_off   (l1 : Int32) (I : zMI) : Option (Int32 × zMI) :=
zb (f12_in l1 (0 : Int32) (39 : Int32)) fun p1 =>
if p1 = (0 : Int32) then
some ((-2 : Int32), I)
else
zb (f12_goesPlain (600 : Int32) I) fun p4 =>
zb (f12_offNumber p4 l1) fun p6 =>
some (p6, p4)
def f12_lastOff_L4 (I : zMI)   : Nat → Int32 → Int32 → Option (Int32)
  | 0, _, _ => none
  | q + 1, l1, l2 =>
    if (40 : Int32) ≤ l2 then
    some (l1)
    else
    zb (f12_offNumber I l2) fun p2 =>
    zl (if p2 = (-1 : Int32) then
    (l1)
    else
    (p2)) fun x5 =>
    f12_lastOff_L4 I q x5 (l2 + (1 : Int32))
def f12_lastOff (I : zMI)    : Option (Int32) :=
f12_lastOff_L4 I zF (-1 : Int32) (0 : Int32)
def f12_find   (l1 : Int32) (l2 : Int32) (I : zMI) : Option (Int32 × zMI) :=
zb (f12_areSeconds l1) fun p1 =>
if p1 = (0 : Int32) then
some ((-2 : Int32), I)
else
zb (f12_in l2 (0 : Int32) (1 : Int32)) fun p4 =>
if p4 = (0 : Int32) then
some ((-2 : Int32), I)
else
zb (f12_goesPlain l1 I) fun p7 =>
zb (f12_offNumber p7 (0 : Int32)) fun p9 =>
if p9 = (-1 : Int32) then
some ((0 : Int32), p7)
else
if l2 = (0 : Int32) then
some (((p7 81 47) - p9), p7)
else
zb (f12_lastOff p7) fun p13 =>
some ((p13 + (1 : Int32)), p7)
def f12_tells_L20   (k73 : Int32 → zMI → Option (Int32 × zMI)) : Nat → Int32 → Int32 → Int32 → zMI → Option (Int32 × zMI)
  | 0, _, _, _, _ => none
  | q + 1, l2, l3, l4, I =>
    if l4 < (0 : Int32) then
    k73 l3 I
    else
    zb (f12_within (I 81 3) (1 : Int32) (5 : Int32)) fun p2 =>
    if ¬ p2 = (0 : Int32) then
    if zib l4 5 = true then
    zl (uI I 99 l4.toNatClampNeg (l2 - l2 / p2 * p2)) fun J6 =>
    zb (f12_within (J6 81 3) (1 : Int32) (5 : Int32)) fun p8 =>
    if ¬ p8 = (0 : Int32) then
    zl (l3 ||| ((1 : Int32) <<< ((J6 99 l4.toNatClampNeg) &&& 31))) fun x11 =>
    f12_tells_L20 k73 q (l2 / p8) x11 (l4 + (-1 : Int32)) J6
    else none
    else none
    else none
def f12_tells_B73    (l3 : Int32) (I : zMI) : Option (Int32 × zMI) :=
zl (if l3 = (((1 : Int32) <<< ((I 81 3) &&& 31)) - (1 : Int32)) then
((1 : Int32))
else
((0 : Int32))) fun x14 =>
if zbB x14 = true then
some (x14, I)
else none
def f12_tells   (l1 : Int32) (I : zMI) : Option (Int32 × zMI) :=
zl (uI I 81 34 (I 81 3)) fun J18 =>
zl ((J18 81 3) - (1 : Int32)) fun x20 =>
f12_tells_L20 (f12_tells_B73) zF l1 (0 : Int32) x20 J18
def f12_powerOf_L4    : Nat → Int32 → Int32 → Int32 → Option (Int32)
  | 0, _, _, _ => none
  | q + 1, l1, l2, l3 =>
    if l1 ≤ l3 then
    some (l2)
    else
    f12_powerOf_L4  q l1 (l2 * l1) (l3 + (1 : Int32))
def f12_powerOf   (l1 : Int32)  : Option (Int32) :=
f12_powerOf_L4 zF l1 (1 : Int32) (0 : Int32)
def f12_digitsNow_L4 (I : zMI)   : Nat → Int32 → Int32 → Option (Int32)
  | 0, _, _ => none
  | q + 1, l1, l2 =>
    if (I 81 34) ≤ l2 then
    some (l1)
    else
    if zib l2 5 = true then
    zl ((((10 : Int32) * l1) + (I 99 l2.toNatClampNeg)) + (1 : Int32)) fun x3 =>
    f12_digitsNow_L4 I q x3 (l2 + (1 : Int32))
    else none
def f12_digitsNow (I : zMI)    : Option (Int32) :=
f12_digitsNow_L4 I zF (0 : Int32) (0 : Int32)
def f12_best_B152   (k25 : Int32 → Int32 → Int32 → Int32 → Int32 → Int32 → zMI → Option (Int32 × zMI)) (l1 : Int32) (l2 : Int32) (l3 : Int32) (l4 : Int32) (l5 : Int32) (l6 : Int32) (I : zMI) : Option (Int32 × zMI) :=
k25 l1 l2 l3 l4 l5 (l6 + (1 : Int32)) I
def f12_best_B148   (k25 : Int32 → Int32 → Int32 → Int32 → Int32 → Int32 → zMI → Option (Int32 × zMI)) (l1 : Int32) (l3 : Int32) (l4 : Int32) (l6 : Int32) (s0 : Int32) (I : zMI) : Option (Int32 × zMI) :=
f12_best_B152 k25 l1 (1 : Int32) l3 l4 s0 l6 I
def f12_best_L25   (k158 : Int32 → Int32 → Int32 → Int32 → zMI → Option (Int32 × zMI)) : Nat → Int32 → Int32 → Int32 → Int32 → Int32 → Int32 → zMI → Option (Int32 × zMI)
  | 0, _, _, _, _, _, _, _ => none
  | q + 1, l1, l2, l3, l4, l5, l6, I =>
    zb (f12_powerOf (I 81 3)) fun p1 =>
    if p1 ≤ l6 then
    k158 l1 l3 l4 l5 I
    else
    zb (f12_tells l6 I) fun p4 =>
    if p4.1 = (0 : Int32) then
    f12_best_B152 (f12_best_L25 k158 q) l1 l2 l3 l4 l5 l6 p4.2
    else
    zb (f12_goesFor (600 : Int32) p4.2) fun p7 =>
    zl (if (p7 81 48) = (-1 : Int32) then
    ((600 : Int32))
    else
    ((p7 81 48))) fun x10 =>
    zl (if l2 = (0 : Int32) then
    ((1 : Int32))
    else
    if x10 < l3 then
    ((1 : Int32))
    else
    if x10 = l3 then
    if (p7 81 47) ≤ l4 then
    ((0 : Int32))
    else
    ((1 : Int32))
    else
    ((0 : Int32))) fun x16 =>
    zl (if x16 = (0 : Int32) then
    (l3)
    else
    (x10)) fun x19 =>
    zl (if x16 = (0 : Int32) then
    (l4)
    else
    ((p7 81 47))) fun x22 =>
    if x16 = (0 : Int32) then
    f12_best_B148 (f12_best_L25 k158 q) l1 x19 x22 l6 l5 p7
    else
    zb (f12_digitsNow p7) fun p25 =>
    f12_best_B148 (f12_best_L25 k158 q) l1 x19 x22 l6 p25 p7
def f12_best_B158    (l1 : Int32) (l3 : Int32) (l4 : Int32) (l5 : Int32) (I : zMI) : Option (Int32 × zMI) :=
zl (if l1 = (0 : Int32) then
if l3 = (600 : Int32) then
((-1 : Int32))
else
(l3)
else
if l1 = (1 : Int32) then
(l4)
else
(l5)) fun x34 =>
some (x34, I)
def f12_best   (l1 : Int32) (I : zMI) : Option (Int32 × zMI) :=
zb (f12_in l1 (0 : Int32) (2 : Int32)) fun p37 =>
if p37 = (0 : Int32) then
some ((-2 : Int32), I)
else
f12_best_L25 (f12_best_B158) zF l1 (0 : Int32) (0 : Int32) (0 : Int32) (0 : Int32) (0 : Int32) I
def f12_start_L39   (k105 : Int32 → Int32 → Int32 → Int32 → Int32 → zMI → Option (Int32 × zMI)) : Nat → Int32 → Int32 → Int32 → Int32 → Int32 → Int32 → zMI → Option (Int32 × zMI)
  | 0, _, _, _, _, _, _, _ => none
  | q + 1, l1, l2, l3, l4, l5, l6, I =>
    if (9 : Int32) ≤ l6 then
    k105 l1 l2 l3 l4 l5 I
    else
    if zib l1 5 = true then
    zl (uI I 86 l1.toNatClampNeg l6) fun J3 =>
    zb (f12_goesPlain (600 : Int32) J3) fun p5 =>
    zl (if (p5 81 47) ≤ l5 then
    (l4)
    else
    (l6)) fun x8 =>
    zl (if (p5 81 47) ≤ l5 then
    (l5)
    else
    ((p5 81 47))) fun x11 =>
    f12_start_L39 k105 q l1 l2 l3 x8 x11 (l6 + (1 : Int32)) p5
    else none
def f12_start_B105    (l1 : Int32) (l2 : Int32) (l3 : Int32) (l4 : Int32) (l5 : Int32) (I : zMI) : Option (Int32 × zMI) :=
if zib l1 5 = true then
zl (uI I 86 l1.toNatClampNeg l3) fun J16 =>
zl (if l2 = (0 : Int32) then
(l4)
else
(l5)) fun x19 =>
some (x19, J16)
else none
def f12_start   (l1 : Int32) (l2 : Int32) (I : zMI) : Option (Int32 × zMI) :=
zb (f12_isWalker I l1) fun p22 =>
if p22 = (0 : Int32) then
some ((-5 : Int32), I)
else
zb (f12_in l2 (0 : Int32) (1 : Int32)) fun p25 =>
if p25 = (0 : Int32) then
some ((-7 : Int32), I)
else
if zib l1 5 = true then
f12_start_L39 (f12_start_B105) zF l1 l2 (I 86 l1.toNatClampNeg) (-1 : Int32) (-1 : Int32) (0 : Int32) I
else none
def f12_without   (l1 : Int32) (I : zMI) : Option (Int32 × zMI) :=
zb (f12_orders l1 I) fun p1 =>
zb (f12_goesFor (600 : Int32) p1) fun p3 =>
some ((p3 81 47), p3)
def f12_sit_L19   (k68 : Int32 → Int32 → Int32 → zMI → Option (Int32 × zMI)) : Nat → Int32 → Int32 → Int32 → Int32 → zMI → Option (Int32 × zMI)
  | 0, _, _, _, _, _ => none
  | q + 1, l1, l2, l3, l4, I =>
    if (I 81 3) ≤ l4 then
    k68 l1 l2 l3 I
    else
    zb (f12_without l4 I) fun p2 =>
    zl (if p2.1 ≤ l3 then
    (l2)
    else
    (l4)) fun x5 =>
    zl (if p2.1 ≤ l3 then
    (l3)
    else
    (p2.1)) fun x8 =>
    f12_sit_L19 k68 q l1 x5 x8 (l4 + (1 : Int32)) p2.2
def f12_sit_B68    (l1 : Int32) (l2 : Int32) (l3 : Int32) (I : zMI) : Option (Int32 × zMI) :=
zl (if l1 = (0 : Int32) then
(l2)
else
(l3)) fun x13 =>
some (x13, I)
def f12_sit   (l1 : Int32) (I : zMI) : Option (Int32 × zMI) :=
zb (f12_in l1 (0 : Int32) (1 : Int32)) fun p16 =>
if p16 = (0 : Int32) then
some ((-2 : Int32), I)
else
f12_sit_L19 (f12_sit_B68) zF l1 (-1 : Int32) (-1 : Int32) (0 : Int32) I
def f12_worth   (l1 : Int32) (I : zMI) : Option (Int32 × zMI) :=
zb (f12_isWalker I l1) fun p1 =>
if p1 = (0 : Int32) then
some ((-1000 : Int32), I)
else
zb (f12_without (-1 : Int32) I) fun p4 =>
zb (f12_without l1 p4.2) fun p6 =>
some ((p4.1 - p6.1), p6.2)
def f12_more_L22   (k78 : Int32 → Int32 → Int32 → zMI → Option (Int32 × zMI)) : Nat → Int32 → Int32 → Int32 → Int32 → zMI → Option (Int32 × zMI)
  | 0, _, _, _, _, _ => none
  | q + 1, l1, l2, l3, l4, I =>
    if ((200 : Int32) - l2) < l4 then
    k78 l1 l2 l3 I
    else
    if l3 = (-1 : Int32) then
    if zib l1 9 = true then
    zl (uI I 82 l1.toNatClampNeg (l2 + l4)) fun J4 =>
    zb (f12_goesPlain (600 : Int32) J4) fun p6 =>
    zl (if (((p6 81 45) >>> (l1 &&& 31)) &&& (1 : Int32)) = (0 : Int32) then
    (l4)
    else
    ((-1 : Int32))) fun x9 =>
    f12_more_L22 k78 q l1 l2 x9 (l4 + (1 : Int32)) p6
    else none
    else
    k78 l1 l2 l3 I
def f12_more_B78    (l1 : Int32) (l2 : Int32) (l3 : Int32) (I : zMI) : Option (Int32 × zMI) :=
if zib l1 9 = true then
zl (uI I 82 l1.toNatClampNeg l2) fun J13 =>
some (l3, J13)
else none
def f12_more   (l1 : Int32) (I : zMI) : Option (Int32 × zMI) :=
zb (f12_isHeap l1) fun p15 =>
if p15 = (0 : Int32) then
some ((-2 : Int32), I)
else
if zib l1 9 = true then
f12_more_L22 (f12_more_B78) zF l1 (I 82 l1.toNatClampNeg) (-1 : Int32) (0 : Int32) I
else none
def f12_secondsOf_L6    : Nat → Int32 → Int32 → Int32 → Int32 → Int32 → zMI → Option (Int32 × zMI)
  | 0, _, _, _, _, _, _ => none
  | q + 1, l1, l2, l3, l4, l5, I =>
    if (l2 + l3) ≤ l5 then
    some (l4, I)
    else
    if zib l5 9 = true then
    zb (f12_takesOf l1 l5 (I 82 l5.toNatClampNeg) (0 : Int32) I) fun p3 =>
    zb (f12_stepsOf l1 l5 (p3.2 82 l5.toNatClampNeg) (0 : Int32) p3.2) fun p5 =>
    f12_secondsOf_L6  q l1 l2 l3 (l4 + (p3.1 + p5.1)) (l5 + (1 : Int32)) p5.2
    else none
def f12_secondsOf   (l1 : Int32) (l2 : Int32) (l3 : Int32) (I : zMI) : Option (Int32 × zMI) :=
f12_secondsOf_L6 zF l1 l2 l3 (0 : Int32) l2 I
def f12_mostSeconds_L11    : Nat → Int32 → Int32 → Int32 → zMI → Option (Int32 × zMI)
  | 0, _, _, _, _ => none
  | q + 1, l1, l2, l3, I =>
    if (I 81 3) ≤ l3 then
    some (l2, I)
    else
    if zib l3 5 = true then
    zb (f12_secondsOf l3 l1 (I 111 l3.toNatClampNeg) I) fun p3 =>
    zl (l1 + (p3.2 111 l3.toNatClampNeg)) fun x5 =>
    zl (uI p3.2 81 51 ((p3.2 81 51) + p3.1)) fun J7 =>
    zl (if p3.1 ≤ l2 then
    (l2)
    else
    (p3.1)) fun x10 =>
    f12_mostSeconds_L11  q x5 x10 (l3 + (1 : Int32)) J7
    else none
def f12_mostSeconds    (I : zMI) : Option (Int32 × zMI) :=
zl (uI I 81 51 (0 : Int32)) fun J13 =>
f12_mostSeconds_L11 zF (0 : Int32) (0 : Int32) (0 : Int32) J13
def f12_tellsStretches_L12   (k49 : Int32 → zMI → Option (Int32 × zMI)) : Nat → Int32 → Int32 → Int32 → zMI → Option (Int32 × zMI)
  | 0, _, _, _, _ => none
  | q + 1, l2, l3, l4, I =>
    if l4 < (0 : Int32) then
    k49 l3 I
    else
    if zib l4 5 = true then
    zl (uI I 111 l4.toNatClampNeg (l2 - l2 / (10 : Int32) * (10 : Int32))) fun J3 =>
    zl (l3 + (J3 111 l4.toNatClampNeg)) fun x5 =>
    f12_tellsStretches_L12 k49 q (l2 / (10 : Int32)) x5 (l4 + (-1 : Int32)) J3
    else none
def f12_tellsStretches_B49    (l3 : Int32) (I : zMI) : Option (Int32 × zMI) :=
zb (f12_within ((I 81 3) - (1 : Int32)) (0 : Int32) (4 : Int32)) fun p7 =>
if zib p7 5 = true then
zl (uI I 111 p7.toNatClampNeg ((9 : Int32) - l3)) fun J10 =>
zl (if (9 : Int32) < l3 then
((0 : Int32))
else
((1 : Int32))) fun x13 =>
if zbB x13 = true then
some (x13, J10)
else none
else none
def f12_tellsStretches   (l1 : Int32) (I : zMI) : Option (Int32 × zMI) :=
f12_tellsStretches_L12 (f12_tellsStretches_B49) zF l1 (0 : Int32) ((I 81 3) - (2 : Int32)) I
def f12_tens_L4    : Nat → Int32 → Int32 → Int32 → Option (Int32)
  | 0, _, _, _ => none
  | q + 1, l1, l2, l3 =>
    if l1 ≤ l3 then
    some (l2)
    else
    f12_tens_L4  q l1 (l2 * (10 : Int32)) (l3 + (1 : Int32))
def f12_tens   (l1 : Int32)  : Option (Int32) :=
f12_tens_L4 zF l1 (1 : Int32) (0 : Int32)
def f12_findsStretches_L53   (k79 : Int32 → Int32 → zMI → Option (Int32 × zMI)) : Nat → Int32 → Int32 → Int32 → zMI → Option (Int32 × zMI)
  | 0, _, _, _, _ => none
  | q + 1, l1, l2, l4, I =>
    if (5 : Int32) ≤ l4 then
    k79 l1 l2 I
    else
    if zib l4 5 = true then
    zl (uI I 112 l4.toNatClampNeg (I 111 l4.toNatClampNeg)) fun J3 =>
    f12_findsStretches_L53 k79 q l1 l2 (l4 + (1 : Int32)) J3
    else none
def f12_findsStretches_B79   (k4 : Int32 → Int32 → zMI → Option (Int32 × zMI)) (l1 : Int32) (l2 : Int32) (I : zMI) : Option (Int32 × zMI) :=
k4 l1 (l2 + (1 : Int32)) I
def f12_findsStretches_B48   (k4 : Int32 → Int32 → zMI → Option (Int32 × zMI)) (l2 : Int32) (l3 : Int32) (I : zMI) : Option (Int32 × zMI) :=
f12_findsStretches_L53 (f12_findsStretches_B79 k4) zF l3 l2 (0 : Int32) I
def f12_findsStretches_L4   (k85 : Int32 → zMI → Option (Int32 × zMI)) : Nat → Int32 → Int32 → zMI → Option (Int32 × zMI)
  | 0, _, _, _ => none
  | q + 1, l1, l2, I =>
    zb (f12_tens ((I 81 3) - (1 : Int32))) fun p5 =>
    if p5 ≤ l2 then
    k85 l1 I
    else
    if (I 81 3) ≤ (0 : Int32) then
    k85 l1 I
    else
    zb (f12_tellsStretches l2 I) fun p9 =>
    if p9.1 = (0 : Int32) then
    f12_findsStretches_B79 (f12_findsStretches_L4 k85 q) l1 l2 p9.2
    else
    zb (f12_mostSeconds p9.2) fun p12 =>
    if l1 = (-1 : Int32) then
    f12_findsStretches_B48 (f12_findsStretches_L4 k85 q) l2 p12.1 p12.2
    else
    if l1 ≤ p12.1 then
    f12_findsStretches_B79 (f12_findsStretches_L4 k85 q) l1 l2 p12.2
    else
    f12_findsStretches_B48 (f12_findsStretches_L4 k85 q) l2 p12.1 p12.2
def f12_findsStretches_L87    : Nat → Int32 → Int32 → zMI → Option (Int32 × zMI)
  | 0, _, _, _ => none
  | q + 1, l1, l2, I =>
    if (5 : Int32) ≤ l2 then
    some (l1, I)
    else
    if zib l2 5 = true then
    zl (uI I 111 l2.toNatClampNeg (I 112 l2.toNatClampNeg)) fun J18 =>
    f12_findsStretches_L87  q l1 (l2 + (1 : Int32)) J18
    else none
def f12_findsStretches_B85    (l1 : Int32) (I : zMI) : Option (Int32 × zMI) :=
f12_findsStretches_L87 zF l1 (0 : Int32) I
def f12_findsStretches    (I : zMI) : Option (Int32 × zMI) :=
f12_findsStretches_L4 (f12_findsStretches_B85) zF (-1 : Int32) (0 : Int32) I
def f12_stretch_L34   (k62 : Int32 → Int32 → Int32 → zMI → Option (Int32 × zMI)) : Nat → Int32 → Int32 → Int32 → Int32 → zMI → Option (Int32 × zMI)
  | 0, _, _, _, _, _ => none
  | q + 1, l1, l2, l3, l4, I =>
    if (I 81 3) ≤ l4 then
    k62 l1 l2 l3 I
    else
    if zib l4 5 = true then
    zl (((10 : Int32) * l3) + (I 111 l4.toNatClampNeg)) fun x3 =>
    f12_stretch_L34 k62 q l1 l2 x3 (l4 + (1 : Int32)) I
    else none
def f12_stretch_B62    (l1 : Int32) (l2 : Int32) (l3 : Int32) (I : zMI) : Option (Int32 × zMI) :=
zl (if l1 = (0 : Int32) then
(l2)
else
if l1 = (1 : Int32) then
(l3)
else
(((I 81 51) + (l2 * ((I 81 2) - (1 : Int32)))))) fun x7 =>
some (x7, I)
def f12_stretch   (l1 : Int32) (I : zMI) : Option (Int32 × zMI) :=
zb (f12_in l1 (0 : Int32) (2 : Int32)) fun p10 =>
if p10 = (0 : Int32) then
some ((-2 : Int32), I)
else
zb (f12_findsStretches I) fun p13 =>
if p13.1 = (-1 : Int32) then
some ((-1 : Int32), p13.2)
else
zb (f12_mostSeconds p13.2) fun p16 =>
f12_stretch_L34 (f12_stretch_B62) zF l1 p13.1 (0 : Int32) (0 : Int32) p16.2
def f12_slowest_L9    : Nat → Int32 → Int32 → Int32 → zMI → Option (Int32 × zMI)
  | 0, _, _, _, _ => none
  | q + 1, l1, l2, l3, I =>
    if (I 81 3) ≤ l3 then
    some ((-1 : Int32), I)
    else
    if zib l3 5 = true then
    zb (f12_secondsOf l3 l2 (I 111 l3.toNatClampNeg) I) fun p3 =>
    if p3.1 = l1 then
    some (l3, p3.2)
    else
    zl (l2 + (p3.2 111 l3.toNatClampNeg)) fun x6 =>
    f12_slowest_L9  q l1 x6 (l3 + (1 : Int32)) p3.2
    else none
def f12_slowest    (I : zMI) : Option (Int32 × zMI) :=
zb (f12_findsStretches I) fun p8 =>
f12_slowest_L9 zF p8.1 (0 : Int32) (0 : Int32) p8.2
def f12_sheetWrong (I : zMI)  (l1 : Int32)  : Option (Int32) :=
zb (f12_in l1 (0 : Int32) (3 : Int32)) fun p1 =>
if p1 = (0 : Int32) then
some ((-2 : Int32))
else
if zib l1 4 = true then
if (I 91 l1.toNatClampNeg) = (-1 : Int32) then
some ((-11 : Int32))
else
zl (if (I 92 l1.toNatClampNeg) = (9 : Int32) then
((0 : Int32))
else
((-2 : Int32))) fun x7 =>
some (x7)
else none
def f12_timeWrong (I : zMI)  (l1 : Int32) (l2 : Int32)  : Option (Int32) :=
zb (f12_sheetWrong I l1) fun p1 =>
if p1 = (0 : Int32) then
zb (f12_areSeconds l2) fun p4 =>
if p4 = (0 : Int32) then
some ((-7 : Int32))
else
some ((0 : Int32))
else
some (p1)
def f12_unlikeNow_L2 (I : zMI)   : Nat → Int32 → Int32 → Option (Int32)
  | 0, _, _ => none
  | q + 1, l1, l2 =>
    if (9 : Int32) ≤ l2 then
    some ((-1 : Int32))
    else
    if zib (((40 : Int32) * l1) + l2) 160 = true then
    if zib l2 9 = true then
    if (I 93 (((40 : Int32) * l1) + l2).toNatClampNeg) = (I 107 l2.toNatClampNeg) then
    f12_unlikeNow_L2 I q l1 (l2 + (1 : Int32))
    else
    some (l2)
    else none
    else none
def f12_unlikeNow (I : zMI)  (l1 : Int32)  : Option (Int32) :=
f12_unlikeNow_L2 I zF l1 (0 : Int32)
def f12_unlike   (l1 : Int32) (l2 : Int32) (I : zMI) : Option (Int32 × zMI) :=
zb (f12_goesPlain l2 I) fun p1 =>
zb (f12_unlikeNow p1 l1) fun p3 =>
some (p3, p1)
def f12_judge   (l1 : Int32) (l2 : Int32) (I : zMI) : Option (Int32 × zMI) :=
zb (f12_timeWrong I l1 l2) fun p1 =>
if p1 = (0 : Int32) then
zb (f12_unlike l1 l2 I) fun p4 =>
some (p4.1, p4.2)
else
some (p1, I)
def f12_when_L42   (k113 : Int32 → Int32 → Int32 → zMI → Option (Int32 × zMI)) : Nat → Int32 → Int32 → Int32 → Int32 → Int32 → zMI → Option (Int32 × zMI)
  | 0, _, _, _, _, _, _ => none
  | q + 1, l1, l2, l4, l5, l6, I =>
    if (600 : Int32) < l6 then
    k113 l2 l4 l5 I
    else
    zb (f12_unlikeNow I l1) fun p2 =>
    zl (if p2 = (-1 : Int32) then
    ((1 : Int32))
    else
    ((0 : Int32))) fun x5 =>
    zl (if x5 = (0 : Int32) then
    (l4)
    else
    if l4 = (-1 : Int32) then
    (l6)
    else
    (l4)) fun x9 =>
    zl (if x5 = (0 : Int32) then
    ((0 : Int32))
    else
    ((1 : Int32))) fun x12 =>
    zb (f12_second l6 I) fun p14 =>
    f12_when_L42 k113 q l1 l2 x9 (l5 + x12) (l6 + (1 : Int32)) p14
def f12_when_B113    (l2 : Int32) (l4 : Int32) (l5 : Int32) (I : zMI) : Option (Int32 × zMI) :=
zl (if l2 = (0 : Int32) then
(l4)
else
(l5)) fun x20 =>
some (x20, I)
def f12_when   (l1 : Int32) (l2 : Int32) (I : zMI) : Option (Int32 × zMI) :=
zb (f12_sheetWrong I l1) fun p23 =>
if p23 = (0 : Int32) then
zb (f12_in l2 (0 : Int32) (1 : Int32)) fun p26 =>
if p26 = (0 : Int32) then
some ((-7 : Int32), I)
else
zb (f12_orders (-1 : Int32) I) fun p29 =>
zb (f12_begins p29) fun p31 =>
f12_when_L42 (f12_when_B113) zF l1 l2 (-1 : Int32) (0 : Int32) (0 : Int32) p31
else
some (p23, I)
def f12_sticks_L40   (k84 : Int32 → Int32 → Int32 → zMI → Option (Int32 × zMI)) : Nat → Int32 → Int32 → Int32 → Int32 → Int32 → Int32 → zMI → Option (Int32 × zMI)
  | 0, _, _, _, _, _, _, _ => none
  | q + 1, l1, l2, l3, l5, l6, l7, I =>
    if (10 : Int32) ≤ l7 then
    k84 l3 l5 l6 I
    else
    if zib l3 9 = true then
    zl (uI I 83 l3.toNatClampNeg l7) fun J3 =>
    zb (f12_unlike l1 l2 J3) fun p5 =>
    zl (if p5.1 = (-1 : Int32) then
    (((1 : Int32) <<< (l7 &&& 31)))
    else
    ((0 : Int32))) fun x8 =>
    f12_sticks_L40 k84 q l1 l2 l3 l5 (l6 ||| x8) (l7 + (1 : Int32)) p5.2
    else none
def f12_sticks_B84    (l3 : Int32) (l5 : Int32) (l6 : Int32) (I : zMI) : Option (Int32 × zMI) :=
if zib l3 9 = true then
zl (uI I 83 l3.toNatClampNeg l5) fun J12 =>
some (l6, J12)
else none
def f12_sticks   (l1 : Int32) (l2 : Int32) (l3 : Int32) (I : zMI) : Option (Int32 × zMI) :=
zb (f12_timeWrong I l1 l2) fun p14 =>
if p14 = (0 : Int32) then
zb (f12_isHeap l3) fun p17 =>
if p17 = (0 : Int32) then
some ((-6 : Int32), I)
else
if zib l3 9 = true then
f12_sticks_L40 (f12_sticks_B84) zF l1 l2 l3 (I 83 l3.toNatClampNeg) (0 : Int32) (0 : Int32) I
else none
else
some (p14, I)
def f12_kinds_L85   (k170 : Int32 → Int32 → Int32 → Int32 → zMI → Option (Int32 × zMI)) : Nat → Int32 → Int32 → Int32 → Int32 → Int32 → Int32 → Int32 → Int32 → zMI → Option (Int32 × zMI)
  | 0, _, _, _, _, _, _, _, _, _ => none
  | q + 1, l1, l2, l5, l6, l7, l8, l9, l10, I =>
    zl (if l6 = (0 : Int32) then
    ((6 : Int32))
    else
    ((9 : Int32))) fun x2 =>
    if x2 ≤ l10 then
    k170 l5 l7 l8 l9 I
    else
    zl (if l6 = (0 : Int32) then
    (l10)
    else
    (l7)) fun x6 =>
    if zib l5 5 = true then
    zl (uI I 84 l5.toNatClampNeg x6) fun J9 =>
    zl (if l6 = (1 : Int32) then
    (l10)
    else
    (l8)) fun x12 =>
    zl (uI J9 86 l5.toNatClampNeg x12) fun J14 =>
    zb (f12_unlike l1 l2 J14) fun p16 =>
    zl (if p16.1 = (-1 : Int32) then
    (((1 : Int32) <<< (l10 &&& 31)))
    else
    ((0 : Int32))) fun x19 =>
    f12_kinds_L85 k170 q l1 l2 l5 l6 l7 l8 (l9 ||| x19) (l10 + (1 : Int32)) p16.2
    else none
def f12_kinds_B170    (l5 : Int32) (l7 : Int32) (l8 : Int32) (l9 : Int32) (I : zMI) : Option (Int32 × zMI) :=
if zib l5 5 = true then
zl (uI I 84 l5.toNatClampNeg l7) fun J26 =>
zl (uI J26 86 l5.toNatClampNeg l8) fun J28 =>
some (l9, J28)
else none
def f12_kinds   (l1 : Int32) (l2 : Int32) (l3 : Int32) (I : zMI) : Option (Int32 × zMI) :=
zb (f12_timeWrong I l1 l2) fun p30 =>
if p30 = (0 : Int32) then
zl (if (0 : Int32) ≤ l3 then
((l3 / (100 : Int32)))
else
((-1 : Int32))) fun x34 =>
zb (f12_isWalker I x34) fun p36 =>
if p36 = (0 : Int32) then
some ((-5 : Int32), I)
else
zl (l3 - l3 / (100 : Int32) * (100 : Int32)) fun x39 =>
zb (f12_in x39 (0 : Int32) (1 : Int32)) fun p41 =>
if p41 = (0 : Int32) then
some ((-7 : Int32), I)
else
if zib x34 5 = true then
f12_kinds_L85 (f12_kinds_B170) zF l1 l2 x34 x39 (I 84 x34.toNatClampNeg) (I 86 x34.toNatClampNeg) (0 : Int32) (0 : Int32) I
else none
else
some (p30, I)
def f12_laws_L25    : Nat → Int32 → Int32 → Int32 → Int32 → Int32 → zMI → Option (Int32 × zMI)
  | 0, _, _, _, _, _, _ => none
  | q + 1, l1, l2, l4, l5, l6, I =>
    if (I 81 11) ≤ l6 then
    zl (uI I 81 12 l4) fun J2 =>
    some (l5, J2)
    else
    zl (uI I 81 12 l6) fun J4 =>
    zb (f12_unlike l1 l2 J4) fun p6 =>
    zl (if p6.1 = (-1 : Int32) then
    (((1 : Int32) <<< (l6 &&& 31)))
    else
    ((0 : Int32))) fun x9 =>
    f12_laws_L25  q l1 l2 l4 (l5 ||| x9) (l6 + (1 : Int32)) p6.2
def f12_laws   (l1 : Int32) (l2 : Int32) (I : zMI) : Option (Int32 × zMI) :=
zb (f12_timeWrong I l1 l2) fun p12 =>
if p12 = (0 : Int32) then
f12_laws_L25 zF l1 l2 (I 81 12) (0 : Int32) (0 : Int32) I
else
some (p12, I)
def f12_film_B79   (k41 : Int32 → Int32 → zMI → Option (Int32 × zMI)) (l1 : Int32) (l3 : Int32) (s1 : Int32) (s2 : Int32) (I : zMI) : Option (Int32 × zMI) :=
if zib s1 160 = true then
zl (uI I 93 s1.toNatClampNeg s2) fun J2 =>
k41 l1 (l3 + (1 : Int32)) J2
else none
def f12_film_L41    : Nat → Int32 → Int32 → zMI → Option (Int32 × zMI)
  | 0, _, _, _ => none
  | q + 1, l1, l3, I =>
    if (40 : Int32) ≤ l3 then
    some ((9 : Int32), I)
    else
    if (9 : Int32) ≤ l3 then
    f12_film_B79 (f12_film_L41  q) l1 l3 (((40 : Int32) * l1) + l3) (0 : Int32) I
    else
    zb (f12_within l3 (0 : Int32) (8 : Int32)) fun p6 =>
    if zib p6 9 = true then
    f12_film_B79 (f12_film_L41  q) l1 l3 (((40 : Int32) * l1) + l3) (I 107 p6.toNatClampNeg) I
    else none
def f12_film   (l1 : Int32) (l2 : Int32) (I : zMI) : Option (Int32 × zMI) :=
zb (f12_in l1 (0 : Int32) (3 : Int32)) fun p9 =>
if p9 = (0 : Int32) then
some ((-2 : Int32), I)
else
zb (f12_areSeconds l2) fun p12 =>
if p12 = (0 : Int32) then
some ((-2 : Int32), I)
else
zb (f12_goesPlain l2 I) fun p15 =>
if zib l1 4 = true then
zl (uI p15 91 l1.toNatClampNeg (1 : Int32)) fun J18 =>
zl (uI J18 92 l1.toNatClampNeg (9 : Int32)) fun J20 =>
f12_film_L41 zF l1 (0 : Int32) J20
else none
def f12_goesBy_L8   (k58 : Int32 → zMI → Option (zMI)) : Nat → Int32 → Int64 → Int32 → zMI → Option (zMI)
  | 0, _, _, _, _ => none
  | q + 1, l2, l3, l5, I =>
    if (9 : Int32) ≤ l5 then
    k58 l2 I
    else
    if zib l5 9 = true then
    zl (uI I 113 l5.toNatClampNeg (I 83 l5.toNatClampNeg)) fun J3 =>
    zl (uI J3 83 l5.toNatClampNeg ((((l3 * (48271 : Int64)) - (l3 * (48271 : Int64)) / (2147483647 : Int64) * (2147483647 : Int64)) - ((l3 * (48271 : Int64)) - (l3 * (48271 : Int64)) / (2147483647 : Int64) * (2147483647 : Int64)) / (10 : Int64) * (10 : Int64)).toInt32)) fun J5 =>
    f12_goesBy_L8 k58 q l2 ((l3 * (48271 : Int64)) - (l3 * (48271 : Int64)) / (2147483647 : Int64) * (2147483647 : Int64)) (l5 + (1 : Int32)) J5
    else none
def f12_goesBy_L66    : Nat → Int32 → zMI → Option (zMI)
  | 0, _, _ => none
  | q + 1, l5, I =>
    if (9 : Int32) ≤ l5 then
    some (I)
    else
    if zib l5 9 = true then
    zl (uI I 83 l5.toNatClampNeg (I 113 l5.toNatClampNeg)) fun J9 =>
    f12_goesBy_L66  q (l5 + (1 : Int32)) J9
    else none
def f12_goesBy_B58    (l2 : Int32) (I : zMI) : Option (zMI) :=
zb (f12_goesPlain l2 I) fun p11 =>
f12_goesBy_L66 zF (0 : Int32) p11
def f12_goesBy   (l1 : Int32) (l2 : Int32) (I : zMI) : Option (zMI) :=
f12_goesBy_L8 (f12_goesBy_B58) zF l2 (l1.toInt64 + (1 : Int64)) (0 : Int32) I
def f12_drawn   (l1 : Int32) (l2 : Int32) (I : zMI) : Option (Int32 × zMI) :=
zb (f12_in l1 (0 : Int32) (99999 : Int32)) fun p1 =>
if p1 = (0 : Int32) then
some ((-2 : Int32), I)
else
zb (f12_in l2 (0 : Int32) (2 : Int32)) fun p4 =>
if p4 = (0 : Int32) then
some ((-2 : Int32), I)
else
zb (f12_goesBy l1 (600 : Int32) I) fun p7 =>
if l2 = (0 : Int32) then
some ((p7 81 47), p7)
else
zb (f12_howMany p7 l2) fun p10 =>
some (p10, p7)
def f12_lowest_L16   (k41 : Int64 → Int64 → Int32 → Int64 → Option (Int64)) : Nat → Int64 → Int64 → Int32 → Int64 → Int64 → Option (Int64)
  | 0, _, _, _, _, _ => none
  | q + 1, l0, l2, l4, l5, l7 =>
    if (lg_cmp l7 (0 : Int64)) = (0 : Int32) then
    k41 l0 l2 l4 l5
    else
    if ¬ l7 = (0 : Int64) then
    f12_lowest_L16 k41 q l0 l2 l4 l7 (l5 - l5 / l7 * l7)
    else none
def f12_lowest_B41    (l0 : Int64) (l2 : Int64) (l4 : Int32) (l5 : Int64)  : Option (Int64) :=
if l4 = (0 : Int32) then
if ¬ l5 = (0 : Int64) then
some ((l0 / l5))
else none
else
if ¬ l5 = (0 : Int64) then
some ((l2 / l5))
else none
def f12_lowest   (l0 : Int64) (l2 : Int64) (l4 : Int32)  : Option (Int64) :=
if (lg_cmp l0 (0 : Int64)) = (0 : Int32) then
some (l4.toInt64)
else
f12_lowest_L16 (f12_lowest_B41) zF l0 l2 l4 l0 l2
def f12_odds_L51   (k92 : Int32 → Int64 → Int32 → zMI → Option (Int64 × zMI)) : Nat → Int32 → Int32 → Int32 → Int32 → Int64 → Int32 → Int32 → zMI → Option (Int64 × zMI)
  | 0, _, _, _, _, _, _, _, _ => none
  | q + 1, l1, l2, l3, l4, l5, l7, l8, I =>
    if l2 ≤ l8 then
    k92 l4 l5 l7 I
    else
    zb (f12_goesBy (l1 + l8) l3 I) fun p2 =>
    zb (f12_howMany p2 (0 : Int32)) fun p4 =>
    f12_odds_L51 k92 q l1 l2 l3 l4 (l5 + p4.toInt64) (l7 + (p2 81 47)) (l8 + (1 : Int32)) p2
def f12_odds_B92    (l4 : Int32) (l5 : Int64) (l7 : Int32) (I : zMI) : Option (Int64 × zMI) :=
if l7 = (0 : Int32) then
some ((-4611686018427387904 : Int64), I)
else
zb (f12_lowest l5 l7.toInt64 l4) fun p7 =>
some (p7, I)
def f12_odds   (l1 : Int32) (l2 : Int32) (l3 : Int32) (l4 : Int32) (I : zMI) : Option (Int64 × zMI) :=
zb (f12_in l1 (0 : Int32) (99999 : Int32)) fun p9 =>
if p9 = (0 : Int32) then
some ((-4611686018427387904 : Int64), I)
else
zb (f12_in l2 (1 : Int32) (10 : Int32)) fun p12 =>
if p12 = (0 : Int32) then
some ((-4611686018427387904 : Int64), I)
else
zb (f12_areSeconds l3) fun p15 =>
if p15 = (0 : Int32) then
some ((-4611686018427387904 : Int64), I)
else
zb (f12_in l4 (0 : Int32) (1 : Int32)) fun p18 =>
if p18 = (0 : Int32) then
some ((-4611686018427387904 : Int64), I)
else
f12_odds_L51 (f12_odds_B92) zF l1 l2 l3 l4 (0 : Int64) (0 : Int32) (0 : Int32) I
def f12_image_L31   (k70 : zMI → Option (Int32 × zMI)) : Nat → Int32 → zMI → Option (Int32 × zMI)
  | 0, _, _ => none
  | q + 1, l1, I =>
    if (9 : Int32) ≤ l1 then
    k70 I
    else
    if zib l1 9 = true then
    if zib l1 23 = true then
    zl (uI I 90 l1.toNatClampNeg (I 82 l1.toNatClampNeg)) fun J4 =>
    if zib ((9 : Int32) + l1) 23 = true then
    zl (uI J4 90 ((9 : Int32) + l1).toNatClampNeg (J4 83 l1.toNatClampNeg)) fun J7 =>
    f12_image_L31 k70 q (l1 + (1 : Int32)) J7
    else none
    else none
    else none
def f12_image_L72    : Nat → Int32 → zMI → Option (Int32 × zMI)
  | 0, _, _ => none
  | q + 1, l1, I =>
    if (5 : Int32) ≤ l1 then
    some ((I 81 3), I)
    else
    if zib l1 5 = true then
    if zib ((18 : Int32) + l1) 23 = true then
    zl (uI I 90 ((18 : Int32) + l1).toNatClampNeg (I 86 l1.toNatClampNeg)) fun J12 =>
    f12_image_L72  q (l1 + (1 : Int32)) J12
    else none
    else none
def f12_image_B70     (I : zMI) : Option (Int32 × zMI) :=
f12_image_L72 zF (0 : Int32) I
def f12_image    (I : zMI) : Option (Int32 × zMI) :=
zl (uI I 81 13 (1 : Int32)) fun J14 =>
zl (uI J14 81 14 (J14 81 3)) fun J16 =>
zl (uI J16 81 15 (J16 81 2)) fun J18 =>
zl (uI J18 81 16 (J18 81 12)) fun J20 =>
f12_image_L31 (f12_image_B70) zF (0 : Int32) J20
def f12_back_L36   (k75 : zMI → Option (Int32 × zMI)) : Nat → Int32 → zMI → Option (Int32 × zMI)
  | 0, _, _ => none
  | q + 1, l1, I =>
    if (9 : Int32) ≤ l1 then
    k75 I
    else
    if zib l1 23 = true then
    if zib l1 9 = true then
    zl (uI I 82 l1.toNatClampNeg (I 90 l1.toNatClampNeg)) fun J4 =>
    if zib ((9 : Int32) + l1) 23 = true then
    zl (uI J4 83 l1.toNatClampNeg (J4 90 ((9 : Int32) + l1).toNatClampNeg)) fun J7 =>
    f12_back_L36 k75 q (l1 + (1 : Int32)) J7
    else none
    else none
    else none
def f12_back_L77    : Nat → Int32 → zMI → Option (Int32 × zMI)
  | 0, _, _ => none
  | q + 1, l1, I =>
    if (5 : Int32) ≤ l1 then
    some ((I 81 3), I)
    else
    if zib ((18 : Int32) + l1) 23 = true then
    if zib l1 5 = true then
    zl (uI I 86 l1.toNatClampNeg (I 90 ((18 : Int32) + l1).toNatClampNeg)) fun J12 =>
    f12_back_L77  q (l1 + (1 : Int32)) J12
    else none
    else none
def f12_back_B75     (I : zMI) : Option (Int32 × zMI) :=
f12_back_L77 zF (0 : Int32) I
def f12_back    (I : zMI) : Option (Int32 × zMI) :=
if (I 81 13) = (0 : Int32) then
some ((-3 : Int32), I)
else
zl (uI I 81 3 (I 81 14)) fun J15 =>
zl (uI J15 81 2 (J15 81 15)) fun J17 =>
zl (uI J17 81 12 (J17 81 16)) fun J19 =>
f12_back_L36 (f12_back_B75) zF (0 : Int32) J19
def f12_sheet_L70    : Nat → Int32 → Int32 → zMI → Option (Int32 × zMI)
  | 0, _, _, _ => none
  | q + 1, l1, l4, I =>
    if (40 : Int32) ≤ l4 then
    some ((1 : Int32), I)
    else
    if zib (((40 : Int32) * l1) + l4) 160 = true then
    zl (uI I 93 (((40 : Int32) * l1) + l4).toNatClampNeg (0 : Int32)) fun J3 =>
    f12_sheet_L70  q l1 (l4 + (1 : Int32)) J3
    else none
def f12_sheet_B44    (l1 : Int32) (l2 : Int32) (l3 : Int32) (I : zMI) : Option (Int32 × zMI) :=
if zib l1 4 = true then
zl (uI I 91 l1.toNatClampNeg l2) fun J6 =>
zl (if l2 = (-1 : Int32) then
((0 : Int32))
else
(l3)) fun x9 =>
zl (uI J6 92 l1.toNatClampNeg x9) fun J11 =>
f12_sheet_L70 zF l1 (0 : Int32) J11
else none
def f12_sheet_B32    (l1 : Int32) (l2 : Int32) (l3 : Int32) (I : zMI) : Option (Int32 × zMI) :=
if l2 = (-1 : Int32) then
f12_sheet_B44 l1 l2 l3 I
else
if (0 : Int32) ≤ l3 then
f12_sheet_B44 l1 l2 l3 I
else
some ((-14 : Int32), I)
def f12_sheet   (l1 : Int32) (l2 : Int32) (l3 : Int32) (I : zMI) : Option (Int32 × zMI) :=
zb (f12_in l1 (0 : Int32) (3 : Int32)) fun p16 =>
if p16 = (0 : Int32) then
some ((-2 : Int32), I)
else
zb (f12_in l2 (-1 : Int32) (2 : Int32)) fun p19 =>
if p19 = (0 : Int32) then
some ((-2 : Int32), I)
else
if l2 = (-1 : Int32) then
f12_sheet_B32 l1 l2 l3 I
else
if l3 ≤ (40 : Int32) then
f12_sheet_B32 l1 l2 l3 I
else
some ((-2 : Int32), I)
def f12_cell   (l1 : Int32) (l2 : Int32) (l3 : Int32) (I : zMI) : Option (Int32 × zMI) :=
zb (f12_in l1 (0 : Int32) (3 : Int32)) fun p1 =>
if p1 = (0 : Int32) then
some ((-2 : Int32), I)
else
if zib l1 4 = true then
if (I 91 l1.toNatClampNeg) = (-1 : Int32) then
some ((-11 : Int32), I)
else
zb (f12_in l2 (0 : Int32) ((I 92 l1.toNatClampNeg) - (1 : Int32))) fun p6 =>
if p6 = (0 : Int32) then
some ((-12 : Int32), I)
else
zl (if (I 91 l1.toNatClampNeg) = (0 : Int32) then
(l3.toInt8.toInt32)
else
if (I 91 l1.toNatClampNeg) = (1 : Int32) then
(l3.toInt16.toInt32)
else
(l3)) fun x11 =>
if zib (((40 : Int32) * l1) + l2) 160 = true then
zl (uI I 93 (((40 : Int32) * l1) + l2).toNatClampNeg x11) fun J14 =>
some ((1 : Int32), J14)
else none
else none
def f12_copy_L147    : Nat → Int32 → Int32 → Int32 → Int32 → zMI → Option (Int32 × zMI)
  | 0, _, _, _, _, _ => none
  | q + 1, l5, l6, l7, l8, I =>
    if l5 ≤ l8 then
    some (l5, I)
    else
    zl (if l7 ≤ l6 then
    (l8)
    else
    (((l5 - (1 : Int32)) - l8))) fun x3 =>
    if zib (l6 + x3) 160 = true then
    if zib (l7 + x3) 160 = true then
    zl (uI I 93 (l7 + x3).toNatClampNeg (I 93 (l6 + x3).toNatClampNeg)) fun J7 =>
    f12_copy_L147  q l5 l6 l7 (l8 + (1 : Int32)) J7
    else none
    else none
def f12_copy   (l1 : Int32) (l2 : Int32) (l3 : Int32) (l4 : Int32) (l5 : Int32) (I : zMI) : Option (Int32 × zMI) :=
zb (f12_in l1 (0 : Int32) (3 : Int32)) fun p10 =>
if p10 = (0 : Int32) then
some ((-2 : Int32), I)
else
zb (f12_in l3 (0 : Int32) (3 : Int32)) fun p13 =>
if p13 = (0 : Int32) then
some ((-2 : Int32), I)
else
if zib l1 4 = true then
if (I 91 l1.toNatClampNeg) = (-1 : Int32) then
some ((-11 : Int32), I)
else
if zib l3 4 = true then
if (I 91 l3.toNatClampNeg) = (-1 : Int32) then
some ((-11 : Int32), I)
else
if (I 91 l1.toNatClampNeg) = (I 91 l3.toNatClampNeg) then
if l5 < (0 : Int32) then
some ((-12 : Int32), I)
else
if l2 < (0 : Int32) then
some ((-12 : Int32), I)
else
if l4 < (0 : Int32) then
some ((-12 : Int32), I)
else
if (I 92 l1.toNatClampNeg) < l2 then
some ((-12 : Int32), I)
else
if (I 92 l3.toNatClampNeg) < l4 then
some ((-12 : Int32), I)
else
if ((I 92 l1.toNatClampNeg) - l2) < l5 then
some ((-12 : Int32), I)
else
if l5 ≤ ((I 92 l3.toNatClampNeg) - l4) then
zl (((40 : Int32) * l1) + l2) fun x28 =>
zl (((40 : Int32) * l3) + l4) fun x30 =>
f12_copy_L147 zF l5 x28 x30 (0 : Int32) I
else
some ((-12 : Int32), I)
else
some ((-13 : Int32), I)
else none
else none
def f12_walkersBy_L63    : Nat → Int32 → Int32 → Int32 → Int32 → Int32 → zMI → Option (Int32 × zMI)
  | 0, _, _, _, _, _, _ => none
  | q + 1, l1, l3, l4, l5, l6, I =>
    if l4 ≤ l6 then
    some (l5, I)
    else
    zl (l3 + ((3 : Int32) * l6)) fun x2 =>
    if l3 < (0 : Int32) then
    some ((-12 : Int32), I)
    else
    if x2 < l3 then
    some ((-12 : Int32), I)
    else
    if zib l1 4 = true then
    if x2 ≤ ((I 92 l1.toNatClampNeg) - (3 : Int32)) then
    zl (((40 : Int32) * l1) + x2) fun x8 =>
    if zib x8 160 = true then
    if zib (x8 + (1 : Int32)) 160 = true then
    if zib (x8 + (2 : Int32)) 160 = true then
    zb (f12_walker (I 93 x8.toNatClampNeg) (I 93 (x8 + (1 : Int32)).toNatClampNeg) (I 93 (x8 + (2 : Int32)).toNatClampNeg) I) fun p13 =>
    zl (if p13.1 < (0 : Int32) then
    ((0 : Int32))
    else
    ((1 : Int32))) fun x16 =>
    f12_walkersBy_L63  q l1 l3 l4 (l5 + x16) (l6 + (1 : Int32)) p13.2
    else none
    else none
    else none
    else
    some ((-12 : Int32), I)
    else none
def f12_walkersBy   (l1 : Int32) (l2 : Int32) (l3 : Int32) (l4 : Int32) (I : zMI) : Option (Int32 × zMI) :=
zb (f12_in l1 (0 : Int32) (3 : Int32)) fun p19 =>
if p19 = (0 : Int32) then
some ((-2 : Int32), I)
else
zb (f12_in l2 (0 : Int32) (2 : Int32)) fun p22 =>
if p22 = (0 : Int32) then
some ((-2 : Int32), I)
else
zb (f12_in l4 (0 : Int32) (5 : Int32)) fun p25 =>
if p25 = (0 : Int32) then
some ((-2 : Int32), I)
else
if zib l1 4 = true then
if (I 91 l1.toNatClampNeg) = (-1 : Int32) then
some ((-11 : Int32), I)
else
if (I 91 l1.toNatClampNeg) = l2 then
f12_walkersBy_L63 zF l1 l3 l4 (0 : Int32) (0 : Int32) I
else
some ((-13 : Int32), I)
else none
def f12_isUnder   (l0 : Int32) (l1 : Int32)  : Option (Int32) :=
zl (if l1 = (0 : Int32) then
((1 : Int32))
else
if l0 = l1 then
((1 : Int32))
else
if l1 = (1 : Int32) then
if l0 = (3 : Int32) then
((1 : Int32))
else
if l1 = (2 : Int32) then
if l0 = (4 : Int32) then
((1 : Int32))
else
((0 : Int32))
else
((0 : Int32))
else
if l1 = (2 : Int32) then
if l0 = (4 : Int32) then
((1 : Int32))
else
((0 : Int32))
else
((0 : Int32))) fun x9 =>
if zbB x9 = true then
some (x9)
else none
def f12_taken (I : zMI)  (l1 : Int32) (l2 : Int32)  : Option (Int32) :=
zb (f12_in l2 (0 : Int32) (6 : Int32)) fun p1 =>
if p1 = (0 : Int32) then
some ((-2 : Int32))
else
zb (f12_in l1 (0 : Int32) (13 : Int32)) fun p4 =>
if p4 = (0 : Int32) then
some ((-12 : Int32))
else
if (9 : Int32) ≤ l1 then
if (l1 - (9 : Int32)) < (I 81 3) then
if (6 : Int32) ≤ l2 then
some ((-13 : Int32))
else
if zib (l1 - (9 : Int32)) 5 = true then
zb (f12_isUnder (I 84 (l1 - (9 : Int32)).toNatClampNeg) l2) fun p11 =>
if p11 = (0 : Int32) then
some ((-13 : Int32))
else
some ((l1 - (9 : Int32)))
else none
else
some ((-11 : Int32))
else
if zib l1 9 = true then
zl (if (I 82 l1.toNatClampNeg) = (0 : Int32) then
((-11 : Int32))
else
if l2 = (6 : Int32) then
((I 82 l1.toNatClampNeg))
else
((-13 : Int32))) fun x17 =>
some (x17)
else none

/-! the methods that make cells: laid by program out of the bytecode -/
def f10_init (n : Nat) (kd : zMK)  (l0 : Nat) (l1 : Int32) (l2 : Int32) (l3 : Int32) (I : zMI) : Option (zMI) :=
    if zWkB n kd l0 = true then
    zl (uI I l0 0 l1) fun J2 =>
    zl (uI J2 l0 1 l2) fun J4 =>
    zl (uI J4 l0 2 l3) fun J6 =>
    some (J6)
    else none
def f5_init (n : Nat) (kd : zMK)  (l0 : Nat) (l1 : Int32) (l2 : Int32) (l3 : Int32) (I : zMI) : Option (zMI) :=
    zb (f10_init n kd l0 l1 l2 l3 I) fun p1 =>
    some (p1)
def f8_init (n : Nat) (kd : zMK)  (l0 : Nat) (l1 : Int32) (l2 : Int32) (l3 : Int32) (I : zMI) : Option (zMI) :=
    zb (f10_init n kd l0 l1 l2 l3 I) fun p1 =>
    some (p1)
def f4_init (n : Nat) (kd : zMK)  (l0 : Nat) (l1 : Int32) (l2 : Int32) (l3 : Int32) (I : zMI) : Option (zMI) :=
    zb (f5_init n kd l0 l1 l2 l3 I) fun p1 =>
    some (p1)
def f1_init (n : Nat) (kd : zMK)  (l0 : Nat) (l1 : Int32) (l2 : Int32) (l3 : Int32) (I : zMI) : Option (zMI) :=
    zb (f8_init n kd l0 l1 l2 l3 I) fun p1 =>
    some (p1)
def f9_init (n : Nat) (kd : zMK)  (l0 : Nat) (l1 : Int32) (l2 : Int32) (l3 : Int32) (I : zMI) : Option (zMI) :=
    zb (f10_init n kd l0 l1 l2 l3 I) fun p1 =>
    some (p1)
def f11_newWalker  (l0 : Int32) (l1 : Int32) (l2 : Int32) (l3 : Int32) (n : Nat) (kd : zMK) (I : zMI) (R : zMR) : Option (Nat × (Nat × zMK) × zMI × zMR) :=
    if l0 = (1 : Int32) then
    zl (uK kd n (21, 0)) fun D4 =>
    zl (uA I n (fun _ => 0)) fun J6 =>
    zl (uRA R n) fun T8 =>
    if zShB (n + 1) D4 = true then
    zb (f5_init (n + 1) D4 n l1 l2 l3 J6) fun p11 =>
    some (n, ((n + 1), D4), p11, T8)
    else none
    else
    if l0 = (2 : Int32) then
    zl (uK kd n (24, 0)) fun D16 =>
    zl (uA I n (fun _ => 0)) fun J18 =>
    zl (uRA R n) fun T20 =>
    if zShB (n + 1) D16 = true then
    zb (f8_init (n + 1) D16 n l1 l2 l3 J18) fun p23 =>
    some (n, ((n + 1), D16), p23, T20)
    else none
    else
    if l0 = (3 : Int32) then
    zl (uK kd n (20, 0)) fun D28 =>
    zl (uA I n (fun _ => 0)) fun J30 =>
    zl (uRA R n) fun T32 =>
    if zShB (n + 1) D28 = true then
    zb (f4_init (n + 1) D28 n l1 l2 l3 J30) fun p35 =>
    some (n, ((n + 1), D28), p35, T32)
    else none
    else
    if l0 = (4 : Int32) then
    zl (uK kd n (17, 0)) fun D40 =>
    zl (uA I n (fun _ => 0)) fun J42 =>
    zl (uRA R n) fun T44 =>
    if zShB (n + 1) D40 = true then
    zb (f1_init (n + 1) D40 n l1 l2 l3 J42) fun p47 =>
    some (n, ((n + 1), D40), p47, T44)
    else none
    else
    if l0 = (5 : Int32) then
    zl (uK kd n (25, 0)) fun D52 =>
    zl (uA I n (fun _ => 0)) fun J54 =>
    zl (uRA R n) fun T56 =>
    if zShB (n + 1) D52 = true then
    zb (f9_init (n + 1) D52 n l1 l2 l3 J54) fun p59 =>
    some (n, ((n + 1), D52), p59, T56)
    else none
    else
    zl (uK kd n (26, 0)) fun D63 =>
    zl (uA I n (fun _ => 0)) fun J65 =>
    zl (uRA R n) fun T67 =>
    if zShB (n + 1) D63 = true then
    zb (f10_init (n + 1) D63 n l1 l2 l3 J65) fun p70 =>
    some (n, ((n + 1), D63), p70, T67)
    else none
def f11_walker  (l1 : Int32) (l2 : Int32) (l3 : Int32) (n : Nat) (kd : zMK) (I : zMI) (R : zMR) : Option (Int32 × (Nat × zMK) × zMI × zMR) :=
    if l1 < (0 : Int32) then
    some ((-2 : Int32), (n, kd), I, R)
    else
    if (6 : Int32) ≤ l1 then
    some ((-2 : Int32), (n, kd), I, R)
    else
    if l2 < (0 : Int32) then
    some ((-2 : Int32), (n, kd), I, R)
    else
    if (9 : Int32) < l2 then
    some ((-2 : Int32), (n, kd), I, R)
    else
    zb (f11_noHeap l3) fun p5 =>
    if p5 = (0 : Int32) then
    if (I 32 4) < (0 : Int32) then
    some ((-4 : Int32), (n, kd), I, R)
    else
    if (I 32 4) < (5 : Int32) then
    zb (f11_newWalker l1 (I 32 4) l2 l3 n kd I R) fun p10 =>
    if zShB p10.2.1.1 p10.2.1.2 = true then
    if zWkB p10.2.1.1 p10.2.1.2 p10.1 = true then
    if zib (I 32 4) 5 = true then
    zl (uR p10.2.2.2 35 (I 32 4).toNatClampNeg (some p10.1)) fun T15 =>
    zl (uI p10.2.2.1 32 4 ((p10.2.2.1 32 4) + (1 : Int32))) fun J17 =>
    some (((J17 32 4) - (1 : Int32)), (p10.2.1.1, p10.2.1.2), J17, T15)
    else none
    else none
    else none
    else
    some ((-4 : Int32), (n, kd), I, R)
    else
    some ((-2 : Int32), (n, kd), I, R)
def f11_kinds_B91  (k59 : Int32 → Int32 → Option Nat → Int32 → Int32 → Int32 → Nat → zMK → zMI → zMR → Option (Int32 × (Nat × zMK) × zMI × zMR)) (l1 : Int32) (l2 : Int32) (l5 : Option Nat) (l6 : Int32) (l7 : Int32) (l8 : Int32) (s0 : Int32) (n : Nat) (kd : zMK) (I : zMI) (R : zMR) : Option (Int32 × (Nat × zMK) × zMI × zMR) :=
    if zShB n kd = true then
    zb (if l6 = (0 : Int32) then
    zm l5 none fun a3 =>
    if zWkB n kd a3 = true then
    some ((I a3 2))
    else none
    else
    some (l8)) fun x6 =>
    zm l5 none fun a8 =>
    if zWkB n kd a8 = true then
    zb (f11_newWalker s0 (I a8 0) (I a8 1) x6 n kd I R) fun p11 =>
    if zShB p11.2.1.1 p11.2.1.2 = true then
    zb (f11_layPlainWith p11.2.1.1 p11.2.1.2 (some p11.1) p11.2.2.1 p11.2.2.2) fun p14 =>
    zb (f0_pass p11.2.1.1 p11.2.1.2 p14.2 l2 p14.1) fun p16 =>
    zb (f11_firstOtherwise p16 l1) fun p18 =>
    zl (if p18 = (-1 : Int32) then
    (((1 : Int32) <<< (l8 &&& 31)))
    else
    ((0 : Int32))) fun x21 =>
    k59 l1 l2 l5 l6 (l7 ||| x21) (l8 + (1 : Int32)) p11.2.1.1 p11.2.1.2 p16 p14.2
    else none
    else none
    else none
def f11_kinds_L59   : Nat → Int32 → Int32 → Option Nat → Int32 → Int32 → Int32 → Nat → zMK → zMI → zMR → Option (Int32 × (Nat × zMK) × zMI × zMR)
  | 0, _, _, _, _, _, _, _, _, _, _ => none
  | q + 1, l1, l2, l5, l6, l7, l8, n, kd, I, R =>
    if zShB n kd = true then
    zl (if l6 = (0 : Int32) then
    ((6 : Int32))
    else
    ((9 : Int32))) fun x27 =>
    if x27 ≤ l8 then
    some (l7, (n, kd), I, R)
    else
    if l6 = (0 : Int32) then
    f11_kinds_B91 (f11_kinds_L59  q) l1 l2 l5 l6 l7 l8 l8 n kd I R
    else
    zm l5 none fun a31 =>
    if zWkB n kd a31 = true then
    zb (fv_kind n kd I a31) fun p34 =>
    f11_kinds_B91 (f11_kinds_L59  q) l1 l2 l5 l6 l7 l8 p34 n kd I R
    else none
    else none
def f11_kinds  (l1 : Int32) (l2 : Int32) (l3 : Int32) (n : Nat) (kd : zMK) (I : zMI) (R : zMR) : Option (Int32 × (Nat × zMK) × zMI × zMR) :=
    zb (f11_refusedJudging I l1 l2) fun p37 =>
    if p37 = (0 : Int32) then
    zb (fJ9_floorDiv_7cf53 l3 (100 : Int32)) fun p40 =>
    zb (f11_walkerOf I R p40) fun p42 =>
    zm p42
    (some ((-5 : Int32), (n, kd), I, R))
    fun a44 =>
    zb (fJ9_floorMod_7cf53 l3 (100 : Int32)) fun p46 =>
    if p46 ≤ (1 : Int32) then
    f11_kinds_L59 10 l1 l2 p42 p46 (0 : Int32) (0 : Int32) n kd I R
    else
    some ((-7 : Int32), (n, kd), I, R)
    else
    some (p37, (n, kd), I, R)
def f11_walkersBy_B145  (k64 : Int32 → Int32 → Option Nat → Int32 → Int32 → Nat → zMK → zMI → zMR → Option (Int32 × (Nat × zMK) × zMI × zMR)) (l3 : Int32) (l4 : Int32) (l5 : Option Nat) (l6 : Int32) (l7 : Int32) (n : Nat) (kd : zMK) (I : zMI) (R : zMR) : Option (Int32 × (Nat × zMK) × zMI × zMR) :=
    if zShB n kd = true then
    k64 l3 l4 l5 l6 (l7 + (1 : Int32)) n kd I R
    else none
def f11_walkersBy_L64   : Nat → Int32 → Int32 → Option Nat → Int32 → Int32 → Nat → zMK → zMI → zMR → Option (Int32 × (Nat × zMK) × zMI × zMR)
  | 0, _, _, _, _, _, _, _, _, _ => none
  | q + 1, l3, l4, l5, l6, l7, n, kd, I, R =>
    if zShB n kd = true then
    if l4 ≤ l7 then
    some (l6, (n, kd), I, R)
    else
    if l3 < (0 : Int32) then
    some ((-12 : Int32), (n, kd), I, R)
    else
    if (40 : Int32) < l3 then
    some ((-12 : Int32), (n, kd), I, R)
    else
    zm l5 none fun a6 =>
    if zSeB a6 = true then
    zb (f6_holds I a6 (l3 + ((3 : Int32) * l7)) (3 : Int32)) fun p9 =>
    if p9 = (0 : Int32) then
    some ((-12 : Int32), (n, kd), I, R)
    else
    zl (l3 + ((3 : Int32) * l7)) fun x12 =>
    if zib x12 40 = true then
    if zib (x12 + (1 : Int32)) 40 = true then
    if zib (x12 + (2 : Int32)) 40 = true then
    zb (f11_walker (I (a6 + 1) x12.toNatClampNeg) (I (a6 + 1) (x12 + (1 : Int32)).toNatClampNeg) (I (a6 + 1) (x12 + (2 : Int32)).toNatClampNeg) n kd I R) fun p17 =>
    if zShB p17.2.1.1 p17.2.1.2 = true then
    if p17.1 < (0 : Int32) then
    f11_walkersBy_B145 (f11_walkersBy_L64  q) l3 l4 l5 l6 l7 p17.2.1.1 p17.2.1.2 p17.2.2.1 p17.2.2.2
    else
    f11_walkersBy_B145 (f11_walkersBy_L64  q) l3 l4 l5 (l6 + (1 : Int32)) l7 p17.2.1.1 p17.2.1.2 p17.2.2.1 p17.2.2.2
    else none
    else none
    else none
    else none
    else none
    else none
def f11_walkersBy  (l1 : Int32) (l2 : Int32) (l3 : Int32) (l4 : Int32) (n : Nat) (kd : zMK) (I : zMI) (R : zMR) : Option (Int32 × (Nat × zMK) × zMI × zMR) :=
    zb (f11_sheetOf l1) fun p21 =>
    zm p21
    (some ((-2 : Int32), (n, kd), I, R))
    fun a23 =>
    if l2 < (0 : Int32) then
    some ((-2 : Int32), (n, kd), I, R)
    else
    if (2 : Int32) < l2 then
    some ((-2 : Int32), (n, kd), I, R)
    else
    if l4 < (0 : Int32) then
    some ((-2 : Int32), (n, kd), I, R)
    else
    if l4 ≤ (5 : Int32) then
    if zSeB a23 = true then
    zb (f6_missing I a23) fun p30 =>
    if p30 = (0 : Int32) then
    if (I a23 0) = l2 then
    f11_walkersBy_L64 6 l3 l4 p21 (0 : Int32) (0 : Int32) n kd I R
    else
    some ((-13 : Int32), (n, kd), I, R)
    else
    some ((-11 : Int32), (n, kd), I, R)
    else none
    else
    some ((-2 : Int32), (n, kd), I, R)
def fJ7_copyOf_59c91  (l0 : Nat) (l1 : Int32) (n : Nat) (kd : zMK) (I : zMI) (R : zMR) : Option (Nat × (Nat × zMK) × zMI × zMR) :=
    if zKdB n kd l0 0 = true then
    if l1 = (Int32.ofNat ((kd l0).2)) then
    if decide ((kd l0).2 ≤ 160) = true then
    zl (uK kd n (0, (kd l0).2)) fun D23 =>
    zl (uA I n (I l0)) fun J25 =>
    zl (uRA R n) fun T27 =>
    if zShB (n + 1) D23 = true then
    if zKdB (n + 1) D23 n 0 = true then
    some (n, ((n + 1), D23), J25, T27)
    else none
    else none
    else none
    else
    if zib l1 161 = true then
    zl (uK kd n (0, l1.toNatClampNeg)) fun D6 =>
    zl (uA I n (fun _ => 0)) fun J8 =>
    zl (uRA R n) fun T10 =>
    if zShB (n + 1) D6 = true then
    if zKdB (n + 1) D6 l0 0 = true then
    zl (if l1 < (Int32.ofNat ((D6 l0).2)) then l1 else (Int32.ofNat ((D6 l0).2))) fun x14 =>
    if zKdB (n + 1) D6 n 0 = true then
    if zcpB (0 : Int32) (0 : Int32) x14 ((D6 l0).2) ((D6 n).2) = true then
    zl (uA J8 n (va_cpy (J8 l0) (J8 n) (0 : Int32).toNatClampNeg (0 : Int32).toNatClampNeg x14.toNatClampNeg)) fun J18 =>
    some (n, ((n + 1), D6), J18, T10)
    else none
    else none
    else none
    else none
    else none
    else none
def f3_init_B126  (k51 : Nat → Nat → Nat → Int32 → Nat → zMK → zMI → zMR → Option ((Nat × zMK) × zMI × zMR)) (l0 : Nat) (l1 : Nat) (l2 : Nat) (l3 : Int32) (n : Nat) (kd : zMK) (I : zMI) (R : zMR) : Option ((Nat × zMK) × zMI × zMR) :=
    if zShB n kd = true then
    k51 l0 l1 l2 (l3 + (1 : Int32)) n kd I R
    else none
def f3_init_B125  (k51 : Nat → Nat → Nat → Int32 → Nat → zMK → zMI → zMR → Option ((Nat × zMK) × zMI × zMR)) (l0 : Nat) (l1 : Nat) (l2 : Nat) (l3 : Int32) (s0 : Nat) (s1 : Int32) (s2 : Int32) (n : Nat) (kd : zMK) (I : zMI) (R : zMR) : Option ((Nat × zMK) × zMI × zMR) :=
    if zShB n kd = true then
    if zKdB n kd s0 0 = true then
    if zib s1 ((kd s0).2) = true then
    zl (uI I s0 s1.toNatClampNeg s2) fun J5 =>
    f3_init_B126 k51 l0 l1 l2 l3 n kd J5 R
    else none
    else none
    else none
def f3_init_B124  (k51 : Nat → Nat → Nat → Int32 → Nat → zMK → zMI → zMR → Option ((Nat × zMK) × zMI × zMR)) (l0 : Nat) (l1 : Nat) (l2 : Nat) (l3 : Int32) (s0 : Nat) (s1 : Int32) (n : Nat) (kd : zMK) (I : zMI) (R : zMR) : Option ((Nat × zMK) × zMI × zMR) :=
    if zShB n kd = true then
    f3_init_B125 k51 l0 l1 l2 l3 s0 s1 (-1 : Int32) n kd I R
    else none
def f3_init_L51   : Nat → Nat → Nat → Nat → Int32 → Nat → zMK → zMI → zMR → Option ((Nat × zMK) × zMI × zMR)
  | 0, _, _, _, _, _, _, _, _ => none
  | q + 1, l0, l1, l2, l3, n, kd, I, R =>
    if zShB n kd = true then
    if (3 : Int32) ≤ l3 then
    some ((n, kd), I, R)
    else
    if zKdB n kd l0 19 = true then
    zm (R l0 4) none fun a11 =>
    if zKdB n kd a11 0 = true then
    if zib l3 ((kd a11).2) = true then
    zl (uI I a11 l3.toNatClampNeg (-1 : Int32)) fun J15 =>
    if zKdB n kd l2 0 = true then
    if (Int32.ofNat ((kd l2).2)) ≤ (l3 + (1 : Int32)) then
    f3_init_B126 (f3_init_L51  q) l0 l1 l2 l3 n kd J15 R
    else
    if zib (l3 + (1 : Int32)) ((kd l2).2) = true then
    if zib l3 ((kd l2).2) = true then
    if (J15 l2 (l3 + (1 : Int32)).toNatClampNeg) = ((J15 l2 l3.toNatClampNeg) + (1 : Int32)) then
    zl (J15 l2 l3.toNatClampNeg) fun x22 =>
    zm (R l0 4) none fun a24 =>
    if x22 < (0 : Int32) then
    f3_init_B124 (f3_init_L51  q) l0 l1 l2 l3 a24 l3 n kd J15 R
    else
    if zKdB n kd l1 0 = true then
    if (Int32.ofNat ((kd l1).2)) ≤ x22 then
    f3_init_B124 (f3_init_L51  q) l0 l1 l2 l3 a24 l3 n kd J15 R
    else
    if zib x22 ((kd l1).2) = true then
    if (J15 l1 x22.toNatClampNeg) < (0 : Int32) then
    f3_init_B124 (f3_init_L51  q) l0 l1 l2 l3 a24 l3 n kd J15 R
    else
    zb (f3_bounded l3 (J15 l1 x22.toNatClampNeg)) fun p31 =>
    f3_init_B125 (f3_init_L51  q) l0 l1 l2 l3 a24 l3 p31 n kd J15 R
    else none
    else none
    else
    f3_init_B126 (f3_init_L51  q) l0 l1 l2 l3 n kd J15 R
    else none
    else none
    else none
    else none
    else none
    else none
    else none
def f3_init  (l0 : Nat) (l1 : Nat) (l2 : Nat) (n : Nat) (kd : zMK) (I : zMI) (R : zMR) : Option ((Nat × zMK) × zMI × zMR) :=
    zl (uK kd n (0, 40)) fun D35 =>
    zl (uA I n (fun _ => 0)) fun J37 =>
    zl (uRA R n) fun T39 =>
    if zShB (n + 1) D35 = true then
    if zKdB (n + 1) D35 l0 19 = true then
    zl (uR T39 l0 2 (some n)) fun T43 =>
    zl (uK D35 (n + 1) (0, 6)) fun D47 =>
    zl (uA J37 (n + 1) (fun _ => 0)) fun J49 =>
    zl (uRA T43 (n + 1)) fun T51 =>
    if zShB ((n + 1) + 1) D47 = true then
    if zKdB ((n + 1) + 1) D47 l0 19 = true then
    zl (uR T51 l0 3 (some (n + 1))) fun T55 =>
    zl (uK D47 ((n + 1) + 1) (0, 3)) fun D59 =>
    zl (uA J49 ((n + 1) + 1) (fun _ => 0)) fun J61 =>
    zl (uRA T55 ((n + 1) + 1)) fun T63 =>
    if zShB (((n + 1) + 1) + 1) D59 = true then
    if zKdB (((n + 1) + 1) + 1) D59 l0 19 = true then
    zl (uR T63 l0 4 (some ((n + 1) + 1))) fun T67 =>
    if zKdB (((n + 1) + 1) + 1) D59 l1 0 = true then
    if decide ((D59 l1).2 ≤ 160) = true then
    zl (uK D59 (((n + 1) + 1) + 1) (0, (D59 l1).2)) fun D73 =>
    zl (uA J61 (((n + 1) + 1) + 1) (J61 l1)) fun J75 =>
    zl (uRA T67 (((n + 1) + 1) + 1)) fun T77 =>
    if zShB ((((n + 1) + 1) + 1) + 1) D73 = true then
    if zKdB ((((n + 1) + 1) + 1) + 1) D73 (((n + 1) + 1) + 1) 0 = true then
    if zKdB ((((n + 1) + 1) + 1) + 1) D73 l0 19 = true then
    zl (uR T77 l0 0 (some (((n + 1) + 1) + 1))) fun T82 =>
    if zKdB ((((n + 1) + 1) + 1) + 1) D73 l2 0 = true then
    if decide ((D73 l2).2 ≤ 160) = true then
    zl (uK D73 ((((n + 1) + 1) + 1) + 1) (0, (D73 l2).2)) fun D88 =>
    zl (uA J75 ((((n + 1) + 1) + 1) + 1) (J75 l2)) fun J90 =>
    zl (uRA T82 ((((n + 1) + 1) + 1) + 1)) fun T92 =>
    if zShB (((((n + 1) + 1) + 1) + 1) + 1) D88 = true then
    if zKdB (((((n + 1) + 1) + 1) + 1) + 1) D88 ((((n + 1) + 1) + 1) + 1) 0 = true then
    if zKdB (((((n + 1) + 1) + 1) + 1) + 1) D88 l0 19 = true then
    zl (uR T92 l0 1 (some ((((n + 1) + 1) + 1) + 1))) fun T97 =>
    f3_init_L51 zF l0 l1 l2 (0 : Int32) (((((n + 1) + 1) + 1) + 1) + 1) D88 J90 T97
    else none
    else none
    else none
    else none
    else none
    else none
    else none
    else none
    else none
    else none
    else none
    else none
    else none
    else none
    else none
    else none
def f7_lastRead   (n : Nat) (kd : zMK) (I : zMI) (R : zMR) : Option (Nat × (Nat × zMK) × zMI × zMR) :=
    zl (if (160 : Int32) < (I 37 8) then (160 : Int32) else (I 37 8)) fun x1 =>
    zl (if (0 : Int32) < x1 then x1 else (0 : Int32)) fun x3 =>
    zl (uK kd n (19, 0)) fun D7 =>
    zl (uA I n (fun _ => 0)) fun J9 =>
    zl (uRA R n) fun T11 =>
    if zShB (n + 1) D7 = true then
    zb (fJ7_copyOf_59c91 39 x3 (n + 1) D7 J9 T11) fun p14 =>
    if zShB p14.2.1.1 p14.2.1.2 = true then
    zb (f3_init n p14.1 40 p14.2.1.1 p14.2.1.2 p14.2.2.1 p14.2.2.2) fun p17 =>
    if zShB p17.1.1 p17.1.2 = true then
    some (n, (p17.1.1, p17.1.2), p17.2.1, p17.2.2)
    else none
    else none
    else none
def f11_text   (n : Nat) (kd : zMK) (I : zMI) (R : zMR) : Option (Int32 × (Nat × zMK) × zMI × zMR) :=
    if (I 32 6) < (0 : Int32) then
    some ((-4 : Int32), (n, kd), I, R)
    else
    if (I 32 6) < (6 : Int32) then
    zb (f7_read I) fun p3 =>
    zl (uI p3.2 37 1 (0 : Int32)) fun J5 =>
    if p3.1 = (-1 : Int32) then
    zb (f7_lastRead n kd J5 R) fun p8 =>
    if zShB p8.2.1.1 p8.2.1.2 = true then
    if zKdB p8.2.1.1 p8.2.1.2 p8.1 19 = true then
    if zib (J5 32 6) 6 = true then
    zl (uR p8.2.2.2 36 (J5 32 6).toNatClampNeg (some p8.1)) fun T13 =>
    zl (uI p8.2.2.1 32 6 ((p8.2.2.1 32 6) + (1 : Int32))) fun J15 =>
    some (((J15 32 6) - (1 : Int32)), (p8.2.1.1, p8.2.1.2), J15, T13)
    else none
    else none
    else none
    else
    some (((-100 : Int32) - p3.1), (n, kd), J5, R)
    else
    some ((-4 : Int32), (n, kd), I, R)

/-! the constructors: laid by program out of the bytecode -/
set_option maxRecDepth 100000 in
def fJ7_fill_53178c_L5 (n : Nat) (kd : zMK)  : Nat → Nat → Int32 → Int32 → Int32 → zMI → Option (zMI)
  | 0, _, _, _, _, _ => none
  | q + 1, l0, l1, l2, l3, I =>
    if l3 ≤ l2 then
    some (I)
    else
    if zKdC n kd l0 0 = true then
    if zib l2 ((kd l0).2) = true then
    zl (uI I l0 l2.toNatClampNeg l1) fun J4 =>
    fJ7_fill_53178c_L5 n kd q l0 l1 (l2 + (1 : Int32)) l3 J4
    else none
    else none
set_option maxRecDepth 100000 in
def fJ7_fill_53178c (n : Nat) (kd : zMK) (l0 : Nat) (l1 : Int32) (I : zMI) : Option (zMI) :=
    if zKdC n kd l0 0 = true then
    zl (Int32.ofNat ((kd l0).2)) fun x7 =>
    fJ7_fill_53178c_L5 n kd zF l0 l1 (0 : Int32) x7 I
    else none
set_option maxRecDepth 100000 in
def f3_boundedc  (l0 : Int32) (l1 : Int32)  : Option (Int32) :=
    if l0 = (2 : Int32) then
    zl (if (0 : Int32) < l1 then l1 else (0 : Int32)) fun x6 =>
    zl (if x6 < (99 : Int32) then x6 else (99 : Int32)) fun x8 =>
    some (x8)
    else
    zl (if (1 : Int32) < l1 then l1 else (1 : Int32)) fun x2 =>
    zl (if x2 < (20 : Int32) then x2 else (20 : Int32)) fun x4 =>
    some (x4)
set_option maxRecDepth 100000 in
def f3_initc_B126  (k51 : Nat → Int32 → Nat → zMK → zMI → zMR → Option ((Nat × zMK) × zMI × zMR)) (l0 : Nat) (l3 : Int32) (n : Nat) (kd : zMK) (I : zMI) (R : zMR) : Option ((Nat × zMK) × zMI × zMR) :=
    k51 l0 (l3 + (1 : Int32)) n kd I R
set_option maxRecDepth 100000 in
def f3_initc_B125  (k51 : Nat → Int32 → Nat → zMK → zMI → zMR → Option ((Nat × zMK) × zMI × zMR)) (l0 : Nat) (l3 : Int32) (s0 : Nat) (s1 : Int32) (s2 : Int32) (n : Nat) (kd : zMK) (I : zMI) (R : zMR) : Option ((Nat × zMK) × zMI × zMR) :=
    if zKdC n kd s0 0 = true then
    if zib s1 ((kd s0).2) = true then
    zl (uI I s0 s1.toNatClampNeg s2) fun J3 =>
    f3_initc_B126 k51 l0 l3 n kd J3 R
    else none
    else none
set_option maxRecDepth 100000 in
def f3_initc_B124  (k51 : Nat → Int32 → Nat → zMK → zMI → zMR → Option ((Nat × zMK) × zMI × zMR)) (l0 : Nat) (l3 : Int32) (s0 : Nat) (s1 : Int32) (n : Nat) (kd : zMK) (I : zMI) (R : zMR) : Option ((Nat × zMK) × zMI × zMR) :=
    f3_initc_B125 k51 l0 l3 s0 s1 (-1 : Int32) n kd I R
set_option maxRecDepth 100000 in
def f3_initc_L51   : Nat → Nat → Int32 → Nat → zMK → zMI → zMR → Option ((Nat × zMK) × zMI × zMR)
  | 0, _, _, _, _, _, _ => none
  | q + 1, l0, l3, n, kd, I, R =>
    if (3 : Int32) ≤ l3 then
    some ((n, kd), I, R)
    else
    if zKdC n kd l0 19 = true then
    zm (R l0 4) none fun a7 =>
    if zKdC n kd a7 0 = true then
    if zib l3 ((kd a7).2) = true then
    zl (uI I a7 l3.toNatClampNeg (-1 : Int32)) fun J11 =>
    if (4 : Int32) ≤ (l3 + (1 : Int32)) then
    f3_initc_B126 (f3_initc_L51  q) l0 l3 n kd J11 R
    else
    if zib (l3 + (1 : Int32)) 4 = true then
    if zib l3 4 = true then
    if (zFs (l3 + (1 : Int32)).toNatClampNeg) = ((zFs l3.toNatClampNeg) + (1 : Int32)) then
    zm (R l0 4) none fun a17 =>
    if (zFs l3.toNatClampNeg) < (0 : Int32) then
    f3_initc_B124 (f3_initc_L51  q) l0 l3 a17 l3 n kd J11 R
    else
    if (3 : Int32) ≤ (zFs l3.toNatClampNeg) then
    f3_initc_B124 (f3_initc_L51  q) l0 l3 a17 l3 n kd J11 R
    else
    if zib (zFs l3.toNatClampNeg) 3 = true then
    if (zFl (zFs l3.toNatClampNeg).toNatClampNeg) < (0 : Int32) then
    f3_initc_B124 (f3_initc_L51  q) l0 l3 a17 l3 n kd J11 R
    else
    zb (f3_boundedc l3 (zFl (zFs l3.toNatClampNeg).toNatClampNeg)) fun p23 =>
    f3_initc_B125 (f3_initc_L51  q) l0 l3 a17 l3 p23 n kd J11 R
    else none
    else
    f3_initc_B126 (f3_initc_L51  q) l0 l3 n kd J11 R
    else none
    else none
    else none
    else none
    else none
set_option maxRecDepth 100000 in
def f3_initc  (l0 : Nat) (n : Nat) (kd : zMK) (I : zMI) (R : zMR) : Option ((Nat × zMK) × zMI × zMR) :=
    if zrlB n = true then
    zl (uK kd n (0, 40)) fun D28 =>
    zl (uA I n (fun _ => 0)) fun J30 =>
    zl (uRA R n) fun T32 =>
    if zKdC (n + 1) D28 l0 19 = true then
    zl (uR T32 l0 2 (some n)) fun T35 =>
    if zrlB (n + 1) = true then
    zl (uK D28 (n + 1) (0, 6)) fun D40 =>
    zl (uA J30 (n + 1) (fun _ => 0)) fun J42 =>
    zl (uRA T35 (n + 1)) fun T44 =>
    if zKdC ((n + 1) + 1) D40 l0 19 = true then
    zl (uR T44 l0 3 (some (n + 1))) fun T47 =>
    if zrlB ((n + 1) + 1) = true then
    zl (uK D40 ((n + 1) + 1) (0, 3)) fun D52 =>
    zl (uA J42 ((n + 1) + 1) (fun _ => 0)) fun J54 =>
    zl (uRA T47 ((n + 1) + 1)) fun T56 =>
    if zKdC (((n + 1) + 1) + 1) D52 l0 19 = true then
    zl (uR T56 l0 4 (some ((n + 1) + 1))) fun T59 =>
    if zrlB (((n + 1) + 1) + 1) = true then
    zl (uK D52 (((n + 1) + 1) + 1) (0, 3)) fun D64 =>
    zl (uA J54 (((n + 1) + 1) + 1) zFl) fun J66 =>
    zl (uRA T59 (((n + 1) + 1) + 1)) fun T68 =>
    if zKdC ((((n + 1) + 1) + 1) + 1) D64 (((n + 1) + 1) + 1) 0 = true then
    if zKdC ((((n + 1) + 1) + 1) + 1) D64 l0 19 = true then
    zl (uR T68 l0 0 (some (((n + 1) + 1) + 1))) fun T72 =>
    if zrlB ((((n + 1) + 1) + 1) + 1) = true then
    zl (uK D64 ((((n + 1) + 1) + 1) + 1) (0, 4)) fun D77 =>
    zl (uA J66 ((((n + 1) + 1) + 1) + 1) zFs) fun J79 =>
    zl (uRA T72 ((((n + 1) + 1) + 1) + 1)) fun T81 =>
    if zKdC (((((n + 1) + 1) + 1) + 1) + 1) D77 ((((n + 1) + 1) + 1) + 1) 0 = true then
    if zKdC (((((n + 1) + 1) + 1) + 1) + 1) D77 l0 19 = true then
    zl (uR T81 l0 1 (some ((((n + 1) + 1) + 1) + 1))) fun T85 =>
    f3_initc_L51 zF l0 (0 : Int32) (((((n + 1) + 1) + 1) + 1) + 1) D77 J79 T85
    else none
    else none
    else none
    else none
    else none
    else none
    else none
    else none
    else none
    else none
    else none
    else none
set_option maxRecDepth 100000 in
def f2_initc (n : Nat) (kd : zMK) (l0 : Nat) (l1 : Int32) (I : zMI) : Option (zMI) :=
    if zKdC n kd l0 18 = true then
    zl (uI I l0 0 l1) fun J2 =>
    some (J2)
    else none
set_option maxRecDepth 100000 in
def f6_initc  (l0 : Nat) (n : Nat) (kd : zMK) (I : zMI) (R : zMR) : Option ((Nat × zMK) × zMI × zMR) :=
    if zKdC n kd l0 22 = true then
    zl (uI I l0 0 (-1 : Int32)) fun J2 =>
    if zrlB n = true then
    zl (uK kd n (0, 40)) fun D7 =>
    zl (uA J2 n (fun _ => 0)) fun J9 =>
    zl (uRA R n) fun T11 =>
    if zKdC (n + 1) D7 l0 22 = true then
    zl (uR T11 l0 2 (some n)) fun T14 =>
    some (((n + 1), D7), J9, T14)
    else none
    else none
    else none
set_option maxRecDepth 100000 in
def f7_initc  (l0 : Nat) (n : Nat) (kd : zMK) (I : zMI) (R : zMR) : Option ((Nat × zMK) × zMI × zMR) :=
    if zrlB n = true then
    zl (uK kd n (0, 160)) fun D4 =>
    zl (uA I n (fun _ => 0)) fun J6 =>
    zl (uRA R n) fun T8 =>
    if zKdC (n + 1) D4 l0 23 = true then
    zl (uR T8 l0 0 (some n)) fun T11 =>
    if zrlB (n + 1) = true then
    zl (uK D4 (n + 1) (0, 160)) fun D16 =>
    zl (uA J6 (n + 1) (fun _ => 0)) fun J18 =>
    zl (uRA T11 (n + 1)) fun T20 =>
    if zKdC ((n + 1) + 1) D16 l0 23 = true then
    zl (uR T20 l0 7 (some (n + 1))) fun T23 =>
    if zrlB ((n + 1) + 1) = true then
    zl (uK D16 ((n + 1) + 1) (0, 4)) fun D28 =>
    zl (uA J18 ((n + 1) + 1) (fun _ => 0)) fun J30 =>
    zl (uRA T23 ((n + 1) + 1)) fun T32 =>
    if zKdC (((n + 1) + 1) + 1) D28 l0 23 = true then
    zl (uR T32 l0 9 (some ((n + 1) + 1))) fun T35 =>
    some (((((n + 1) + 1) + 1), D28), J30, T35)
    else none
    else none
    else none
    else none
    else none
    else none
set_option maxRecDepth 100000 in
def f0_initc_L31   : Nat → Nat → Int32 → Nat → zMK → zMI → zMR → Option ((Nat × zMK) × zMI × zMR)
  | 0, _, _, _, _, _, _ => none
  | q + 1, l0, l1, n, kd, I, R =>
    if (9 : Int32) ≤ l1 then
    some ((n, kd), I, R)
    else
    if zKdC n kd l0 16 = true then
    if zrlB n = true then
    zl (uK kd n (18, 0)) fun D6 =>
    zl (uA I n (fun _ => 0)) fun J8 =>
    zl (uRA R n) fun T10 =>
    zb (f2_initc (n + 1) D6 n l1 J8) fun p12 =>
    zm (R l0 0) none fun a14 =>
    if zKdC (n + 1) D6 a14 5 = true then
    if zKdC (n + 1) D6 n 18 = true then
    if zib l1 (D6 a14).2 = true then
    zl (uR T10 a14 l1.toNatClampNeg (some n)) fun T19 =>
    f0_initc_L31  q l0 (l1 + (1 : Int32)) (n + 1) D6 p12 T19
    else none
    else none
    else none
    else none
    else none
set_option maxRecDepth 100000 in
def f0_initc  (l0 : Nat) (n : Nat) (kd : zMK) (I : zMI) (R : zMR) : Option ((Nat × zMK) × zMI × zMR) :=
    if zrlB n = true then
    zl (uK kd n (5, 9)) fun D24 =>
    zl (uA I n (fun _ => 0)) fun J26 =>
    zl (uRA R n) fun T28 =>
    if zKdC (n + 1) D24 l0 16 = true then
    zl (uR T28 l0 0 (some n)) fun T31 =>
    if zrlB (n + 1) = true then
    zl (uK D24 (n + 1) (2, 5)) fun D36 =>
    zl (uA J26 (n + 1) (fun _ => 0)) fun J38 =>
    zl (uRA T31 (n + 1)) fun T40 =>
    if zKdC ((n + 1) + 1) D36 l0 16 = true then
    zl (uR T40 l0 1 (some (n + 1))) fun T43 =>
    if zrlB ((n + 1) + 1) = true then
    zl (uK D36 ((n + 1) + 1) (0, 40)) fun D48 =>
    zl (uA J38 ((n + 1) + 1) (fun _ => 0)) fun J50 =>
    zl (uRA T43 ((n + 1) + 1)) fun T52 =>
    if zKdC (((n + 1) + 1) + 1) D48 l0 16 = true then
    zl (uR T52 l0 6 (some ((n + 1) + 1))) fun T55 =>
    f0_initc_L31 10 l0 (0 : Int32) (((n + 1) + 1) + 1) D48 J50 T55
    else none
    else none
    else none
    else none
    else none
    else none
set_option maxRecDepth 100000 in
def f11_initc_L162   : Nat → Nat → Int32 → Nat → zMK → zMI → zMR → Option ((Nat × zMK) × zMI × zMR)
  | 0, _, _, _, _, _, _ => none
  | q + 1, l0, l1, n, kd, I, R =>
    if (4 : Int32) ≤ l1 then
    some ((n, kd), I, R)
    else
    if zKdC n kd l0 27 = true then
    if zrlB n = true then
    zl (uK kd n (22, 0)) fun D6 =>
    zl (uA I n (fun _ => 0)) fun J8 =>
    zl (uRA R n) fun T10 =>
    zb (f6_initc n (n + 1) D6 J8 T10) fun p12 =>
    zm (R l0 9) none fun a14 =>
    if zKdC p12.1.1 p12.1.2 a14 4 = true then
    if zKdC p12.1.1 p12.1.2 n 22 = true then
    if zib l1 (p12.1.2 a14).2 = true then
    zl (uR p12.2.2 a14 l1.toNatClampNeg (some n)) fun T19 =>
    f11_initc_L162  q l0 (l1 + (1 : Int32)) p12.1.1 p12.1.2 p12.2.1 T19
    else none
    else none
    else none
    else none
    else none
set_option maxRecDepth 100000 in
def f11_initc  (l0 : Nat) (n : Nat) (kd : zMK) (I : zMI) (R : zMR) : Option ((Nat × zMK) × zMI × zMR) :=
    if zrlB n = true then
    zl (uK kd n (0, 9)) fun D24 =>
    zl (uA I n (fun _ => 0)) fun J26 =>
    zl (uRA R n) fun T28 =>
    if zKdC (n + 1) D24 l0 27 = true then
    zl (uR T28 l0 0 (some n)) fun T31 =>
    if zrlB (n + 1) = true then
    zl (uK D24 (n + 1) (0, 9)) fun D36 =>
    zl (uA J26 (n + 1) (fun _ => 0)) fun J38 =>
    zl (uRA T31 (n + 1)) fun T40 =>
    if zKdC ((n + 1) + 1) D36 l0 27 = true then
    zl (uR T40 l0 1 (some (n + 1))) fun T43 =>
    zl (uI J38 l0 2 (20 : Int32)) fun J45 =>
    if zrlB ((n + 1) + 1) = true then
    zl (uK D36 ((n + 1) + 1) (2, 5)) fun D50 =>
    zl (uA J45 ((n + 1) + 1) (fun _ => 0)) fun J52 =>
    zl (uRA T43 ((n + 1) + 1)) fun T54 =>
    if zKdC (((n + 1) + 1) + 1) D50 l0 27 = true then
    zl (uR T54 l0 3 (some ((n + 1) + 1))) fun T57 =>
    if zrlB (((n + 1) + 1) + 1) = true then
    zl (uK D50 (((n + 1) + 1) + 1) (3, 6)) fun D62 =>
    zl (uA J52 (((n + 1) + 1) + 1) (fun _ => 0)) fun J64 =>
    zl (uRA T57 (((n + 1) + 1) + 1)) fun T66 =>
    if zKdC ((((n + 1) + 1) + 1) + 1) D62 l0 27 = true then
    zl (uR T66 l0 5 (some (((n + 1) + 1) + 1))) fun T69 =>
    if zrlB ((((n + 1) + 1) + 1) + 1) = true then
    zl (uK D62 ((((n + 1) + 1) + 1) + 1) (23, 0)) fun D74 =>
    zl (uA J64 ((((n + 1) + 1) + 1) + 1) (fun _ => 0)) fun J76 =>
    zl (uRA T69 ((((n + 1) + 1) + 1) + 1)) fun T78 =>
    zb (f7_initc ((((n + 1) + 1) + 1) + 1) (((((n + 1) + 1) + 1) + 1) + 1) D74 J76 T78) fun p80 =>
    if zKdC p80.1.1 p80.1.2 l0 27 = true then
    zl (uR p80.2.2 l0 8 (some ((((n + 1) + 1) + 1) + 1))) fun T83 =>
    if zrlB p80.1.1 = true then
    zl (uK p80.1.2 p80.1.1 (4, 4)) fun D88 =>
    zl (uA p80.2.1 p80.1.1 (fun _ => 0)) fun J90 =>
    zl (uRA T83 p80.1.1) fun T92 =>
    if zKdC (p80.1.1 + 1) D88 l0 27 = true then
    zl (uR T92 l0 9 (some p80.1.1)) fun T95 =>
    if zrlB (p80.1.1 + 1) = true then
    zl (uK D88 (p80.1.1 + 1) (16, 0)) fun D100 =>
    zl (uA J90 (p80.1.1 + 1) (fun _ => 0)) fun J102 =>
    zl (uRA T95 (p80.1.1 + 1)) fun T104 =>
    zb (f0_initc (p80.1.1 + 1) ((p80.1.1 + 1) + 1) D100 J102 T104) fun p106 =>
    if zKdC p106.1.1 p106.1.2 l0 27 = true then
    zl (uR p106.2.2 l0 10 (some (p80.1.1 + 1))) fun T109 =>
    if zrlB p106.1.1 = true then
    zl (uK p106.1.2 p106.1.1 (0, 5)) fun D114 =>
    zl (uA p106.2.1 p106.1.1 (fun _ => 0)) fun J116 =>
    zl (uRA T109 p106.1.1) fun T118 =>
    if zKdC (p106.1.1 + 1) D114 l0 27 = true then
    zl (uR T118 l0 11 (some p106.1.1)) fun T121 =>
    if decide (32 ≤ (p106.1.1 + 1) ∧ (p106.1.1 + 1) + 1 + 6 ≤ 81) = true then
    zl (zMul ((p106.1.1 + 1), D114, J116, T121) 6 10) fun M124 =>
    if zKdC M124.1 M124.2.1 l0 27 = true then
    zl (uR M124.2.2.2 l0 12 (some (p106.1.1 + 1))) fun T127 =>
    if zrlB M124.1 = true then
    zl (uK M124.2.1 M124.1 (0, 5)) fun D132 =>
    zl (uA M124.2.2.1 M124.1 (fun _ => 0)) fun J134 =>
    zl (uRA T127 M124.1) fun T136 =>
    if zKdC (M124.1 + 1) D132 l0 27 = true then
    zl (uR T136 l0 13 (some M124.1)) fun T139 =>
    if zrlB (M124.1 + 1) = true then
    zl (uK D132 (M124.1 + 1) (0, 9)) fun D144 =>
    zl (uA J134 (M124.1 + 1) (fun _ => 0)) fun J146 =>
    zl (uRA T139 (M124.1 + 1)) fun T148 =>
    if zKdC ((M124.1 + 1) + 1) D144 l0 27 = true then
    zl (uR T148 l0 14 (some (M124.1 + 1))) fun T151 =>
    if zrlB ((M124.1 + 1) + 1) = true then
    zl (uK D144 ((M124.1 + 1) + 1) (0, 9)) fun D156 =>
    zl (uA J146 ((M124.1 + 1) + 1) (fun _ => 0)) fun J158 =>
    zl (uRA T151 ((M124.1 + 1) + 1)) fun T160 =>
    if zKdC (((M124.1 + 1) + 1) + 1) D156 l0 27 = true then
    zl (uR T160 l0 15 (some ((M124.1 + 1) + 1))) fun T163 =>
    if zrlB (((M124.1 + 1) + 1) + 1) = true then
    zl (uK D156 (((M124.1 + 1) + 1) + 1) (0, 5)) fun D168 =>
    zl (uA J158 (((M124.1 + 1) + 1) + 1) (fun _ => 0)) fun J170 =>
    zl (uRA T163 (((M124.1 + 1) + 1) + 1)) fun T172 =>
    if zKdC ((((M124.1 + 1) + 1) + 1) + 1) D168 l0 27 = true then
    zl (uR T172 l0 16 (some (((M124.1 + 1) + 1) + 1))) fun T175 =>
    zl (uI J170 l0 18 (-1 : Int32)) fun J177 =>
    zm (T175 l0 0) none fun a179 =>
    zb (fJ7_fill_53178c ((((M124.1 + 1) + 1) + 1) + 1) D168 a179 (50 : Int32) J177) fun p181 =>
    if zrlB ((((M124.1 + 1) + 1) + 1) + 1) = true then
    zl (uK D168 ((((M124.1 + 1) + 1) + 1) + 1) (19, 0)) fun D186 =>
    zl (uA p181 ((((M124.1 + 1) + 1) + 1) + 1) (fun _ => 0)) fun J188 =>
    zl (uRA T175 ((((M124.1 + 1) + 1) + 1) + 1)) fun T190 =>
    zb (f3_initc ((((M124.1 + 1) + 1) + 1) + 1) (((((M124.1 + 1) + 1) + 1) + 1) + 1) D186 J188 T190) fun p192 =>
    zm (T175 l0 5) none fun a194 =>
    if zKdC p192.1.1 p192.1.2 a194 3 = true then
    if zKdC p192.1.1 p192.1.2 ((((M124.1 + 1) + 1) + 1) + 1) 19 = true then
    if zib (0 : Int32) (p192.1.2 a194).2 = true then
    zl (uR p192.2.2 a194 (0 : Int32).toNatClampNeg (some ((((M124.1 + 1) + 1) + 1) + 1))) fun T199 =>
    if zKdC p192.1.1 p192.1.2 l0 27 = true then
    zl (uI p192.2.1 l0 6 (1 : Int32)) fun J202 =>
    f11_initc_L162 5 l0 (0 : Int32) p192.1.1 p192.1.2 J202 T199
    else none
    else none
    else none
    else none
    else none
    else none
    else none
    else none
    else none
    else none
    else none
    else none
    else none
    else none
    else none
    else none
    else none
    else none
    else none
    else none
    else none
    else none
    else none
    else none
    else none
    else none
    else none
    else none
    else none
    else none
    else none

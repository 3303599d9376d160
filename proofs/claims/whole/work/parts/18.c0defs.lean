/-! the constructors: laid by program out of the bytecode -/
set_option maxRecDepth 100000 in
def fJ7_fill_53178c_L5 (n : Nat) (kd : zMK)  : Nat → Nat → Int32 → Int32 → Int32 → zMI → Option (zMI)
  | 0, _, _, _, _, _ => none
  | q + 1, l0, l1, l2, l3, I =>
    if l3 ≤ l2 then
    some (I)
    else
    if zKdB n kd l0 0 = true then
    if zib l2 ((kd l0).2) = true then
    zl (uI I l0 l2.toNatClampNeg l1) fun J4 =>
    fJ7_fill_53178c_L5 n kd q l0 l1 (l2 + (1 : Int32)) l3 J4
    else none
    else none
set_option maxRecDepth 100000 in
def fJ7_fill_53178c (n : Nat) (kd : zMK) (l0 : Nat) (l1 : Int32) (I : zMI) : Option (zMI) :=
    if zKdB n kd l0 0 = true then
    zl (Int32.ofNat ((kd l0).2)) fun x7 =>
    fJ7_fill_53178c_L5 n kd zF l0 l1 (0 : Int32) x7 I
    else none
set_option maxRecDepth 100000 in
def f3_boundedc  (l0 : Int32) (l1 : Int32)  : Option (Int32) :=
    if l0 = (2 : Int32) then
    zl (if (0 : Int32) < l1 then l1 else (0 : Int32)) fun x6 =>
    zl (if x6 < (99 : Int32) then x6 else (99 : Int32)) fun x8 =>
    some (x8)
    else
    zl (if (1 : Int32) < l1 then l1 else (1 : Int32)) fun x2 =>
    zl (if x2 < (20 : Int32) then x2 else (20 : Int32)) fun x4 =>
    some (x4)
set_option maxRecDepth 100000 in
def f3_initc_B126  (k51 : Nat → Int32 → Nat → zMK → zMI → zMR → Option ((Nat × zMK) × zMI × zMR)) (l0 : Nat) (l3 : Int32) (n : Nat) (kd : zMK) (I : zMI) (R : zMR) : Option ((Nat × zMK) × zMI × zMR) :=
    k51 l0 (l3 + (1 : Int32)) n kd I R
set_option maxRecDepth 100000 in
def f3_initc_B125  (k51 : Nat → Int32 → Nat → zMK → zMI → zMR → Option ((Nat × zMK) × zMI × zMR)) (l0 : Nat) (l3 : Int32) (s0 : Nat) (s1 : Int32) (s2 : Int32) (n : Nat) (kd : zMK) (I : zMI) (R : zMR) : Option ((Nat × zMK) × zMI × zMR) :=
    if zKdB n kd s0 0 = true then
    if zib s1 ((kd s0).2) = true then
    zl (uI I s0 s1.toNatClampNeg s2) fun J3 =>
    f3_initc_B126 k51 l0 l3 n kd J3 R
    else none
    else none
set_option maxRecDepth 100000 in
def f3_initc_B124  (k51 : Nat → Int32 → Nat → zMK → zMI → zMR → Option ((Nat × zMK) × zMI × zMR)) (l0 : Nat) (l3 : Int32) (s0 : Nat) (s1 : Int32) (n : Nat) (kd : zMK) (I : zMI) (R : zMR) : Option ((Nat × zMK) × zMI × zMR) :=
    f3_initc_B125 k51 l0 l3 s0 s1 (-1 : Int32) n kd I R
set_option maxRecDepth 100000 in
def f3_initc_L51   : Nat → Nat → Int32 → Nat → zMK → zMI → zMR → Option ((Nat × zMK) × zMI × zMR)
  | 0, _, _, _, _, _, _ => none
  | q + 1, l0, l3, n, kd, I, R =>
    if (3 : Int32) ≤ l3 then
    some ((n, kd), I, R)
    else
    if zKdB n kd l0 19 = true then
    zm (R l0 4) none fun a7 =>
    if zKdB n kd a7 0 = true then
    if zib l3 ((kd a7).2) = true then
    zl (uI I a7 l3.toNatClampNeg (-1 : Int32)) fun J11 =>
    if (4 : Int32) ≤ (l3 + (1 : Int32)) then
    f3_initc_B126 (f3_initc_L51  q) l0 l3 n kd J11 R
    else
    if zib (l3 + (1 : Int32)) 4 = true then
    if zib l3 4 = true then
    if (zFs (l3 + (1 : Int32)).toNatClampNeg) = ((zFs l3.toNatClampNeg) + (1 : Int32)) then
    zm (R l0 4) none fun a17 =>
    if (zFs l3.toNatClampNeg) < (0 : Int32) then
    f3_initc_B124 (f3_initc_L51  q) l0 l3 a17 l3 n kd J11 R
    else
    if (3 : Int32) ≤ (zFs l3.toNatClampNeg) then
    f3_initc_B124 (f3_initc_L51  q) l0 l3 a17 l3 n kd J11 R
    else
    if zib (zFs l3.toNatClampNeg) 3 = true then
    if (zFl (zFs l3.toNatClampNeg).toNatClampNeg) < (0 : Int32) then
    f3_initc_B124 (f3_initc_L51  q) l0 l3 a17 l3 n kd J11 R
    else
    zb (f3_boundedc l3 (zFl (zFs l3.toNatClampNeg).toNatClampNeg)) fun p23 =>
    f3_initc_B125 (f3_initc_L51  q) l0 l3 a17 l3 p23 n kd J11 R
    else none
    else
    f3_initc_B126 (f3_initc_L51  q) l0 l3 n kd J11 R
    else none
    else none
    else none
    else none
    else none
set_option maxRecDepth 100000 in
def f3_initc  (l0 : Nat) (n : Nat) (kd : zMK) (I : zMI) (R : zMR) : Option ((Nat × zMK) × zMI × zMR) :=
    zl (uK kd n (0, 40)) fun D27 =>
    zl (uA I n (fun _ => 0)) fun J29 =>
    zl (uRA R n) fun T31 =>
    if zKdB (n + 1) D27 l0 19 = true then
    zl (uR T31 l0 2 (some n)) fun T34 =>
    zl (uK D27 (n + 1) (0, 6)) fun D38 =>
    zl (uA J29 (n + 1) (fun _ => 0)) fun J40 =>
    zl (uRA T34 (n + 1)) fun T42 =>
    if zKdB ((n + 1) + 1) D38 l0 19 = true then
    zl (uR T42 l0 3 (some (n + 1))) fun T45 =>
    zl (uK D38 ((n + 1) + 1) (0, 3)) fun D49 =>
    zl (uA J40 ((n + 1) + 1) (fun _ => 0)) fun J51 =>
    zl (uRA T45 ((n + 1) + 1)) fun T53 =>
    if zKdB (((n + 1) + 1) + 1) D49 l0 19 = true then
    zl (uR T53 l0 4 (some ((n + 1) + 1))) fun T56 =>
    zl (uK D49 (((n + 1) + 1) + 1) (0, 3)) fun D60 =>
    zl (uA J51 (((n + 1) + 1) + 1) zFl) fun J62 =>
    zl (uRA T56 (((n + 1) + 1) + 1)) fun T64 =>
    if zKdB ((((n + 1) + 1) + 1) + 1) D60 (((n + 1) + 1) + 1) 0 = true then
    if zKdB ((((n + 1) + 1) + 1) + 1) D60 l0 19 = true then
    zl (uR T64 l0 0 (some (((n + 1) + 1) + 1))) fun T68 =>
    zl (uK D60 ((((n + 1) + 1) + 1) + 1) (0, 4)) fun D72 =>
    zl (uA J62 ((((n + 1) + 1) + 1) + 1) zFs) fun J74 =>
    zl (uRA T68 ((((n + 1) + 1) + 1) + 1)) fun T76 =>
    if zKdB (((((n + 1) + 1) + 1) + 1) + 1) D72 ((((n + 1) + 1) + 1) + 1) 0 = true then
    if zKdB (((((n + 1) + 1) + 1) + 1) + 1) D72 l0 19 = true then
    zl (uR T76 l0 1 (some ((((n + 1) + 1) + 1) + 1))) fun T80 =>
    f3_initc_L51 zF l0 (0 : Int32) (((((n + 1) + 1) + 1) + 1) + 1) D72 J74 T80
    else none
    else none
    else none
    else none
    else none
    else none
    else none
set_option maxRecDepth 100000 in
def f2_initc (n : Nat) (kd : zMK) (l0 : Nat) (l1 : Int32) (I : zMI) : Option (zMI) :=
    if zKdB n kd l0 18 = true then
    zl (uI I l0 0 l1) fun J2 =>
    some (J2)
    else none
set_option maxRecDepth 100000 in
def f6_initc  (l0 : Nat) (n : Nat) (kd : zMK) (I : zMI) (R : zMR) : Option ((Nat × zMK) × zMI × zMR) :=
    if zKdB n kd l0 22 = true then
    zl (uI I l0 0 (-1 : Int32)) fun J2 =>
    zl (uK kd n (0, 40)) fun D6 =>
    zl (uA J2 n (fun _ => 0)) fun J8 =>
    zl (uRA R n) fun T10 =>
    if zKdB (n + 1) D6 l0 22 = true then
    zl (uR T10 l0 2 (some n)) fun T13 =>
    some (((n + 1), D6), J8, T13)
    else none
    else none
set_option maxRecDepth 100000 in
def f7_initc  (l0 : Nat) (n : Nat) (kd : zMK) (I : zMI) (R : zMR) : Option ((Nat × zMK) × zMI × zMR) :=
    zl (uK kd n (0, 160)) fun D3 =>
    zl (uA I n (fun _ => 0)) fun J5 =>
    zl (uRA R n) fun T7 =>
    if zKdB (n + 1) D3 l0 23 = true then
    zl (uR T7 l0 0 (some n)) fun T10 =>
    zl (uK D3 (n + 1) (0, 160)) fun D14 =>
    zl (uA J5 (n + 1) (fun _ => 0)) fun J16 =>
    zl (uRA T10 (n + 1)) fun T18 =>
    if zKdB ((n + 1) + 1) D14 l0 23 = true then
    zl (uR T18 l0 7 (some (n + 1))) fun T21 =>
    zl (uK D14 ((n + 1) + 1) (0, 4)) fun D25 =>
    zl (uA J16 ((n + 1) + 1) (fun _ => 0)) fun J27 =>
    zl (uRA T21 ((n + 1) + 1)) fun T29 =>
    if zKdB (((n + 1) + 1) + 1) D25 l0 23 = true then
    zl (uR T29 l0 9 (some ((n + 1) + 1))) fun T32 =>
    some (((((n + 1) + 1) + 1), D25), J27, T32)
    else none
    else none
    else none
set_option maxRecDepth 100000 in
def f0_initc_L31   : Nat → Nat → Int32 → Nat → zMK → zMI → zMR → Option ((Nat × zMK) × zMI × zMR)
  | 0, _, _, _, _, _, _ => none
  | q + 1, l0, l1, n, kd, I, R =>
    if (9 : Int32) ≤ l1 then
    some ((n, kd), I, R)
    else
    if zKdB n kd l0 16 = true then
    zl (uK kd n (18, 0)) fun D5 =>
    zl (uA I n (fun _ => 0)) fun J7 =>
    zl (uRA R n) fun T9 =>
    zb (f2_initc (n + 1) D5 n l1 J7) fun p11 =>
    zm (R l0 0) none fun a13 =>
    if zKdB (n + 1) D5 a13 5 = true then
    if zKdB (n + 1) D5 n 18 = true then
    if zib l1 (D5 a13).2 = true then
    zl (uR T9 a13 l1.toNatClampNeg (some n)) fun T18 =>
    f0_initc_L31  q l0 (l1 + (1 : Int32)) (n + 1) D5 p11 T18
    else none
    else none
    else none
    else none
set_option maxRecDepth 100000 in
def f0_initc  (l0 : Nat) (n : Nat) (kd : zMK) (I : zMI) (R : zMR) : Option ((Nat × zMK) × zMI × zMR) :=
    zl (uK kd n (5, 9)) fun D22 =>
    zl (uA I n (fun _ => 0)) fun J24 =>
    zl (uRA R n) fun T26 =>
    if zKdB (n + 1) D22 l0 16 = true then
    zl (uR T26 l0 0 (some n)) fun T29 =>
    zl (uK D22 (n + 1) (2, 5)) fun D33 =>
    zl (uA J24 (n + 1) (fun _ => 0)) fun J35 =>
    zl (uRA T29 (n + 1)) fun T37 =>
    if zKdB ((n + 1) + 1) D33 l0 16 = true then
    zl (uR T37 l0 1 (some (n + 1))) fun T40 =>
    zl (uK D33 ((n + 1) + 1) (0, 40)) fun D44 =>
    zl (uA J35 ((n + 1) + 1) (fun _ => 0)) fun J46 =>
    zl (uRA T40 ((n + 1) + 1)) fun T48 =>
    if zKdB (((n + 1) + 1) + 1) D44 l0 16 = true then
    zl (uR T48 l0 6 (some ((n + 1) + 1))) fun T51 =>
    f0_initc_L31 10 l0 (0 : Int32) (((n + 1) + 1) + 1) D44 J46 T51
    else none
    else none
    else none
set_option maxRecDepth 100000 in
def f11_initc_L162   : Nat → Nat → Int32 → Nat → zMK → zMI → zMR → Option ((Nat × zMK) × zMI × zMR)
  | 0, _, _, _, _, _, _ => none
  | q + 1, l0, l1, n, kd, I, R =>
    if (4 : Int32) ≤ l1 then
    some ((n, kd), I, R)
    else
    if zKdB n kd l0 27 = true then
    zl (uK kd n (22, 0)) fun D5 =>
    zl (uA I n (fun _ => 0)) fun J7 =>
    zl (uRA R n) fun T9 =>
    zb (f6_initc n (n + 1) D5 J7 T9) fun p11 =>
    zm (R l0 9) none fun a13 =>
    if zKdB p11.1.1 p11.1.2 a13 4 = true then
    if zKdB p11.1.1 p11.1.2 n 22 = true then
    if zib l1 (p11.1.2 a13).2 = true then
    zl (uR p11.2.2 a13 l1.toNatClampNeg (some n)) fun T18 =>
    f11_initc_L162  q l0 (l1 + (1 : Int32)) p11.1.1 p11.1.2 p11.2.1 T18
    else none
    else none
    else none
    else none
set_option maxRecDepth 100000 in
def f11_initc  (l0 : Nat) (n : Nat) (kd : zMK) (I : zMI) (R : zMR) : Option ((Nat × zMK) × zMI × zMR) :=
    zl (uK kd n (0, 9)) fun D22 =>
    zl (uA I n (fun _ => 0)) fun J24 =>
    zl (uRA R n) fun T26 =>
    if zKdB (n + 1) D22 l0 27 = true then
    zl (uR T26 l0 0 (some n)) fun T29 =>
    zl (uK D22 (n + 1) (0, 9)) fun D33 =>
    zl (uA J24 (n + 1) (fun _ => 0)) fun J35 =>
    zl (uRA T29 (n + 1)) fun T37 =>
    if zKdB ((n + 1) + 1) D33 l0 27 = true then
    zl (uR T37 l0 1 (some (n + 1))) fun T40 =>
    zl (uI J35 l0 2 (20 : Int32)) fun J42 =>
    zl (uK D33 ((n + 1) + 1) (2, 5)) fun D46 =>
    zl (uA J42 ((n + 1) + 1) (fun _ => 0)) fun J48 =>
    zl (uRA T40 ((n + 1) + 1)) fun T50 =>
    if zKdB (((n + 1) + 1) + 1) D46 l0 27 = true then
    zl (uR T50 l0 3 (some ((n + 1) + 1))) fun T53 =>
    zl (uK D46 (((n + 1) + 1) + 1) (3, 6)) fun D57 =>
    zl (uA J48 (((n + 1) + 1) + 1) (fun _ => 0)) fun J59 =>
    zl (uRA T53 (((n + 1) + 1) + 1)) fun T61 =>
    if zKdB ((((n + 1) + 1) + 1) + 1) D57 l0 27 = true then
    zl (uR T61 l0 5 (some (((n + 1) + 1) + 1))) fun T64 =>
    zl (uK D57 ((((n + 1) + 1) + 1) + 1) (23, 0)) fun D68 =>
    zl (uA J59 ((((n + 1) + 1) + 1) + 1) (fun _ => 0)) fun J70 =>
    zl (uRA T64 ((((n + 1) + 1) + 1) + 1)) fun T72 =>
    zb (f7_initc ((((n + 1) + 1) + 1) + 1) (((((n + 1) + 1) + 1) + 1) + 1) D68 J70 T72) fun p74 =>
    if zKdB p74.1.1 p74.1.2 l0 27 = true then
    zl (uR p74.2.2 l0 8 (some ((((n + 1) + 1) + 1) + 1))) fun T77 =>
    zl (uK p74.1.2 p74.1.1 (4, 4)) fun D81 =>
    zl (uA p74.2.1 p74.1.1 (fun _ => 0)) fun J83 =>
    zl (uRA T77 p74.1.1) fun T85 =>
    if zKdB (p74.1.1 + 1) D81 l0 27 = true then
    zl (uR T85 l0 9 (some p74.1.1)) fun T88 =>
    zl (uK D81 (p74.1.1 + 1) (16, 0)) fun D92 =>
    zl (uA J83 (p74.1.1 + 1) (fun _ => 0)) fun J94 =>
    zl (uRA T88 (p74.1.1 + 1)) fun T96 =>
    zb (f0_initc (p74.1.1 + 1) ((p74.1.1 + 1) + 1) D92 J94 T96) fun p98 =>
    if zKdB p98.1.1 p98.1.2 l0 27 = true then
    zl (uR p98.2.2 l0 10 (some (p74.1.1 + 1))) fun T101 =>
    zl (uK p98.1.2 p98.1.1 (0, 5)) fun D105 =>
    zl (uA p98.2.1 p98.1.1 (fun _ => 0)) fun J107 =>
    zl (uRA T101 p98.1.1) fun T109 =>
    if zKdB (p98.1.1 + 1) D105 l0 27 = true then
    zl (uR T109 l0 11 (some p98.1.1)) fun T112 =>
    zl (zMul ((p98.1.1 + 1), D105, J107, T112) 6 10) fun M114 =>
    if zKdB M114.1 M114.2.1 l0 27 = true then
    zl (uR M114.2.2.2 l0 12 (some (p98.1.1 + 1))) fun T117 =>
    zl (uK M114.2.1 M114.1 (0, 5)) fun D121 =>
    zl (uA M114.2.2.1 M114.1 (fun _ => 0)) fun J123 =>
    zl (uRA T117 M114.1) fun T125 =>
    if zKdB (M114.1 + 1) D121 l0 27 = true then
    zl (uR T125 l0 13 (some M114.1)) fun T128 =>
    zl (uK D121 (M114.1 + 1) (0, 9)) fun D132 =>
    zl (uA J123 (M114.1 + 1) (fun _ => 0)) fun J134 =>
    zl (uRA T128 (M114.1 + 1)) fun T136 =>
    if zKdB ((M114.1 + 1) + 1) D132 l0 27 = true then
    zl (uR T136 l0 14 (some (M114.1 + 1))) fun T139 =>
    zl (uK D132 ((M114.1 + 1) + 1) (0, 9)) fun D143 =>
    zl (uA J134 ((M114.1 + 1) + 1) (fun _ => 0)) fun J145 =>
    zl (uRA T139 ((M114.1 + 1) + 1)) fun T147 =>
    if zKdB (((M114.1 + 1) + 1) + 1) D143 l0 27 = true then
    zl (uR T147 l0 15 (some ((M114.1 + 1) + 1))) fun T150 =>
    zl (uK D143 (((M114.1 + 1) + 1) + 1) (0, 5)) fun D154 =>
    zl (uA J145 (((M114.1 + 1) + 1) + 1) (fun _ => 0)) fun J156 =>
    zl (uRA T150 (((M114.1 + 1) + 1) + 1)) fun T158 =>
    if zKdB ((((M114.1 + 1) + 1) + 1) + 1) D154 l0 27 = true then
    zl (uR T158 l0 16 (some (((M114.1 + 1) + 1) + 1))) fun T161 =>
    zl (uI J156 l0 18 (-1 : Int32)) fun J163 =>
    zm (T161 l0 0) none fun a165 =>
    zb (fJ7_fill_53178c ((((M114.1 + 1) + 1) + 1) + 1) D154 a165 (50 : Int32) J163) fun p167 =>
    zl (uK D154 ((((M114.1 + 1) + 1) + 1) + 1) (19, 0)) fun D171 =>
    zl (uA p167 ((((M114.1 + 1) + 1) + 1) + 1) (fun _ => 0)) fun J173 =>
    zl (uRA T161 ((((M114.1 + 1) + 1) + 1) + 1)) fun T175 =>
    zb (f3_initc ((((M114.1 + 1) + 1) + 1) + 1) (((((M114.1 + 1) + 1) + 1) + 1) + 1) D171 J173 T175) fun p177 =>
    zm (T161 l0 5) none fun a179 =>
    if zKdB p177.1.1 p177.1.2 a179 3 = true then
    if zKdB p177.1.1 p177.1.2 ((((M114.1 + 1) + 1) + 1) + 1) 19 = true then
    if zib (0 : Int32) (p177.1.2 a179).2 = true then
    zl (uR p177.2.2 a179 (0 : Int32).toNatClampNeg (some ((((M114.1 + 1) + 1) + 1) + 1))) fun T184 =>
    if zKdB p177.1.1 p177.1.2 l0 27 = true then
    zl (uI p177.2.1 l0 6 (1 : Int32)) fun J187 =>
    f11_initc_L162 5 l0 (0 : Int32) p177.1.1 p177.1.2 J187 T184
    else none
    else none
    else none
    else none
    else none
    else none
    else none
    else none
    else none
    else none
    else none
    else none
    else none
    else none
    else none
    else none
    else none
set_option maxRecDepth 100000 in
def f12_initc_L1061  (k1085 : Nat → Nat → zMK → zMI → zMR → Option ((Nat × zMK) × zMI × zMR)) : Nat → Nat → Int32 → Nat → zMK → zMI → zMR → Option ((Nat × zMK) × zMI × zMR)
  | 0, _, _, _, _, _, _ => none
  | q + 1, l0, l1, n, kd, I, R =>
    if (29 : Int32) ≤ l1 then
    k1085 l0 n kd I R
    else
    if zKdB n kd l0 28 = true then
    zm (R l0 7) none fun a3 =>
    zm (R l0 21) none fun a5 =>
    if zKdB n kd a5 0 = true then
    if zib l1 ((kd a5).2) = true then
    if zKdB n kd a3 0 = true then
    if zib l1 ((kd a3).2) = true then
    zl (uI I a3 l1.toNatClampNeg (I a5 l1.toNatClampNeg)) fun J11 =>
    f12_initc_L1061 k1085 q l0 (l1 + (1 : Int32)) n kd J11 R
    else none
    else none
    else none
    else none
    else none
set_option maxRecDepth 100000 in
def f12_initc_B1085   (l0 : Nat) (n : Nat) (kd : zMK) (I : zMI) (R : zMR) : Option ((Nat × zMK) × zMI × zMR) :=
    if zKdB n kd l0 28 = true then
    zl (uI I l0 8 (29 : Int32)) fun J14 =>
    if zShB n kd = true then
    if decide (l0 = 81) = true then
    if zfxB R = true then
    zb (f12_text J14) fun p19 =>
    some ((n, kd), p19.2, R)
    else none
    else none
    else none
    else none
set_option maxRecDepth 100000 in
def f12_initc  (l0 : Nat) (n : Nat) (kd : zMK) (I : zMI) (R : zMR) : Option ((Nat × zMK) × zMI × zMR) :=
    zl (uK kd n (0, 9)) fun D23 =>
    zl (uA I n (fun _ => 0)) fun J25 =>
    zl (uRA R n) fun T27 =>
    if zKdB (n + 1) D23 n 0 = true then
    if zib (0 : Int32) ((D23 n).2) = true then
    zl (uI J25 n (0 : Int32).toNatClampNeg (50 : Int32)) fun J31 =>
    if zib (1 : Int32) ((D23 n).2) = true then
    zl (uI J31 n (1 : Int32).toNatClampNeg (50 : Int32)) fun J34 =>
    if zib (2 : Int32) ((D23 n).2) = true then
    zl (uI J34 n (2 : Int32).toNatClampNeg (50 : Int32)) fun J37 =>
    if zib (3 : Int32) ((D23 n).2) = true then
    zl (uI J37 n (3 : Int32).toNatClampNeg (50 : Int32)) fun J40 =>
    if zib (4 : Int32) ((D23 n).2) = true then
    zl (uI J40 n (4 : Int32).toNatClampNeg (50 : Int32)) fun J43 =>
    if zib (5 : Int32) ((D23 n).2) = true then
    zl (uI J43 n (5 : Int32).toNatClampNeg (50 : Int32)) fun J46 =>
    if zib (6 : Int32) ((D23 n).2) = true then
    zl (uI J46 n (6 : Int32).toNatClampNeg (50 : Int32)) fun J49 =>
    if zib (7 : Int32) ((D23 n).2) = true then
    zl (uI J49 n (7 : Int32).toNatClampNeg (50 : Int32)) fun J52 =>
    if zib (8 : Int32) ((D23 n).2) = true then
    zl (uI J52 n (8 : Int32).toNatClampNeg (50 : Int32)) fun J55 =>
    if zKdB (n + 1) D23 l0 28 = true then
    zl (uR T27 l0 0 (some n)) fun T58 =>
    zl (uK D23 (n + 1) (0, 9)) fun D62 =>
    zl (uA J55 (n + 1) (fun _ => 0)) fun J64 =>
    zl (uRA T58 (n + 1)) fun T66 =>
    if zKdB ((n + 1) + 1) D62 l0 28 = true then
    zl (uR T66 l0 1 (some (n + 1))) fun T69 =>
    zl (uI J64 l0 2 (20 : Int32)) fun J71 =>
    zl (uK D62 ((n + 1) + 1) (0, 5)) fun D75 =>
    zl (uA J71 ((n + 1) + 1) (fun _ => 0)) fun J77 =>
    zl (uRA T69 ((n + 1) + 1)) fun T79 =>
    if zKdB (((n + 1) + 1) + 1) D75 l0 28 = true then
    zl (uR T79 l0 4 (some ((n + 1) + 1))) fun T82 =>
    zl (uK D75 (((n + 1) + 1) + 1) (0, 5)) fun D86 =>
    zl (uA J77 (((n + 1) + 1) + 1) (fun _ => 0)) fun J88 =>
    zl (uRA T82 (((n + 1) + 1) + 1)) fun T90 =>
    if zKdB ((((n + 1) + 1) + 1) + 1) D86 l0 28 = true then
    zl (uR T90 l0 5 (some (((n + 1) + 1) + 1))) fun T93 =>
    zl (uK D86 ((((n + 1) + 1) + 1) + 1) (0, 5)) fun D97 =>
    zl (uA J88 ((((n + 1) + 1) + 1) + 1) (fun _ => 0)) fun J99 =>
    zl (uRA T93 ((((n + 1) + 1) + 1) + 1)) fun T101 =>
    if zKdB (((((n + 1) + 1) + 1) + 1) + 1) D97 l0 28 = true then
    zl (uR T101 l0 6 (some ((((n + 1) + 1) + 1) + 1))) fun T104 =>
    zl (uK D97 (((((n + 1) + 1) + 1) + 1) + 1) (0, 160)) fun D108 =>
    zl (uA J99 (((((n + 1) + 1) + 1) + 1) + 1) (fun _ => 0)) fun J110 =>
    zl (uRA T104 (((((n + 1) + 1) + 1) + 1) + 1)) fun T112 =>
    if zKdB ((((((n + 1) + 1) + 1) + 1) + 1) + 1) D108 l0 28 = true then
    zl (uR T112 l0 7 (some (((((n + 1) + 1) + 1) + 1) + 1))) fun T115 =>
    zl (uK D108 ((((((n + 1) + 1) + 1) + 1) + 1) + 1) (0, 1200)) fun D119 =>
    zl (uA J110 ((((((n + 1) + 1) + 1) + 1) + 1) + 1) (fun _ => 0)) fun J121 =>
    zl (uRA T115 ((((((n + 1) + 1) + 1) + 1) + 1) + 1)) fun T123 =>
    if zKdB (((((((n + 1) + 1) + 1) + 1) + 1) + 1) + 1) D119 l0 28 = true then
    zl (uR T123 l0 9 (some ((((((n + 1) + 1) + 1) + 1) + 1) + 1))) fun T126 =>
    zl (uK D119 (((((((n + 1) + 1) + 1) + 1) + 1) + 1) + 1) (0, 24)) fun D130 =>
    zl (uA J121 (((((((n + 1) + 1) + 1) + 1) + 1) + 1) + 1) (fun _ => 0)) fun J132 =>
    zl (uRA T126 (((((((n + 1) + 1) + 1) + 1) + 1) + 1) + 1)) fun T134 =>
    if zKdB ((((((((n + 1) + 1) + 1) + 1) + 1) + 1) + 1) + 1) D130 l0 28 = true then
    zl (uR T134 l0 10 (some (((((((n + 1) + 1) + 1) + 1) + 1) + 1) + 1))) fun T137 =>
    zl (uK D130 ((((((((n + 1) + 1) + 1) + 1) + 1) + 1) + 1) + 1) (0, 23)) fun D141 =>
    zl (uA J132 ((((((((n + 1) + 1) + 1) + 1) + 1) + 1) + 1) + 1) (fun _ => 0)) fun J143 =>
    zl (uRA T137 ((((((((n + 1) + 1) + 1) + 1) + 1) + 1) + 1) + 1)) fun T145 =>
    if zKdB (((((((((n + 1) + 1) + 1) + 1) + 1) + 1) + 1) + 1) + 1) D141 l0 28 = true then
    zl (uR T145 l0 17 (some ((((((((n + 1) + 1) + 1) + 1) + 1) + 1) + 1) + 1))) fun T148 =>
    zl (uK D141 (((((((((n + 1) + 1) + 1) + 1) + 1) + 1) + 1) + 1) + 1) (0, 4)) fun D152 =>
    zl (uA J143 (((((((((n + 1) + 1) + 1) + 1) + 1) + 1) + 1) + 1) + 1) (fun _ => 0)) fun J154 =>
    zl (uRA T148 (((((((((n + 1) + 1) + 1) + 1) + 1) + 1) + 1) + 1) + 1)) fun T156 =>
    if zKdB ((((((((((n + 1) + 1) + 1) + 1) + 1) + 1) + 1) + 1) + 1) + 1) D152 (((((((((n + 1) + 1) + 1) + 1) + 1) + 1) + 1) + 1) + 1) 0 = true then
    if zib (0 : Int32) ((D152 (((((((((n + 1) + 1) + 1) + 1) + 1) + 1) + 1) + 1) + 1)).2) = true then
    zl (uI J154 (((((((((n + 1) + 1) + 1) + 1) + 1) + 1) + 1) + 1) + 1) (0 : Int32).toNatClampNeg (-1 : Int32)) fun J160 =>
    if zib (1 : Int32) ((D152 (((((((((n + 1) + 1) + 1) + 1) + 1) + 1) + 1) + 1) + 1)).2) = true then
    zl (uI J160 (((((((((n + 1) + 1) + 1) + 1) + 1) + 1) + 1) + 1) + 1) (1 : Int32).toNatClampNeg (-1 : Int32)) fun J163 =>
    if zib (2 : Int32) ((D152 (((((((((n + 1) + 1) + 1) + 1) + 1) + 1) + 1) + 1) + 1)).2) = true then
    zl (uI J163 (((((((((n + 1) + 1) + 1) + 1) + 1) + 1) + 1) + 1) + 1) (2 : Int32).toNatClampNeg (-1 : Int32)) fun J166 =>
    if zib (3 : Int32) ((D152 (((((((((n + 1) + 1) + 1) + 1) + 1) + 1) + 1) + 1) + 1)).2) = true then
    zl (uI J166 (((((((((n + 1) + 1) + 1) + 1) + 1) + 1) + 1) + 1) + 1) (3 : Int32).toNatClampNeg (-1 : Int32)) fun J169 =>
    if zKdB ((((((((((n + 1) + 1) + 1) + 1) + 1) + 1) + 1) + 1) + 1) + 1) D152 l0 28 = true then
    zl (uR T156 l0 18 (some (((((((((n + 1) + 1) + 1) + 1) + 1) + 1) + 1) + 1) + 1))) fun T172 =>
    zl (uK D152 ((((((((((n + 1) + 1) + 1) + 1) + 1) + 1) + 1) + 1) + 1) + 1) (0, 4)) fun D176 =>
    zl (uA J169 ((((((((((n + 1) + 1) + 1) + 1) + 1) + 1) + 1) + 1) + 1) + 1) (fun _ => 0)) fun J178 =>
    zl (uRA T172 ((((((((((n + 1) + 1) + 1) + 1) + 1) + 1) + 1) + 1) + 1) + 1)) fun T180 =>
    if zKdB (((((((((((n + 1) + 1) + 1) + 1) + 1) + 1) + 1) + 1) + 1) + 1) + 1) D176 l0 28 = true then
    zl (uR T180 l0 19 (some ((((((((((n + 1) + 1) + 1) + 1) + 1) + 1) + 1) + 1) + 1) + 1))) fun T183 =>
    zl (uK D176 (((((((((((n + 1) + 1) + 1) + 1) + 1) + 1) + 1) + 1) + 1) + 1) + 1) (0, 160)) fun D187 =>
    zl (uA J178 (((((((((((n + 1) + 1) + 1) + 1) + 1) + 1) + 1) + 1) + 1) + 1) + 1) (fun _ => 0)) fun J189 =>
    zl (uRA T183 (((((((((((n + 1) + 1) + 1) + 1) + 1) + 1) + 1) + 1) + 1) + 1) + 1)) fun T191 =>
    if zKdB ((((((((((((n + 1) + 1) + 1) + 1) + 1) + 1) + 1) + 1) + 1) + 1) + 1) + 1) D187 l0 28 = true then
    zl (uR T191 l0 20 (some (((((((((((n + 1) + 1) + 1) + 1) + 1) + 1) + 1) + 1) + 1) + 1) + 1))) fun T194 =>
    zl (uK D187 ((((((((((((n + 1) + 1) + 1) + 1) + 1) + 1) + 1) + 1) + 1) + 1) + 1) + 1) (0, 29)) fun D198 =>
    zl (uA J189 ((((((((((((n + 1) + 1) + 1) + 1) + 1) + 1) + 1) + 1) + 1) + 1) + 1) + 1) (fun _ => 0)) fun J200 =>
    zl (uRA T194 ((((((((((((n + 1) + 1) + 1) + 1) + 1) + 1) + 1) + 1) + 1) + 1) + 1) + 1)) fun T202 =>
    if zKdB (((((((((((((n + 1) + 1) + 1) + 1) + 1) + 1) + 1) + 1) + 1) + 1) + 1) + 1) + 1) D198 ((((((((((((n + 1) + 1) + 1) + 1) + 1) + 1) + 1) + 1) + 1) + 1) + 1) + 1) 0 = true then
    if zib (0 : Int32) ((D198 ((((((((((((n + 1) + 1) + 1) + 1) + 1) + 1) + 1) + 1) + 1) + 1) + 1) + 1)).2) = true then
    zl (uI J200 ((((((((((((n + 1) + 1) + 1) + 1) + 1) + 1) + 1) + 1) + 1) + 1) + 1) + 1) (0 : Int32).toNatClampNeg (116 : Int32)) fun J206 =>
    if zib (1 : Int32) ((D198 ((((((((((((n + 1) + 1) + 1) + 1) + 1) + 1) + 1) + 1) + 1) + 1) + 1) + 1)).2) = true then
    zl (uI J206 ((((((((((((n + 1) + 1) + 1) + 1) + 1) + 1) + 1) + 1) + 1) + 1) + 1) + 1) (1 : Int32).toNatClampNeg (97 : Int32)) fun J209 =>
    if zib (2 : Int32) ((D198 ((((((((((((n + 1) + 1) + 1) + 1) + 1) + 1) + 1) + 1) + 1) + 1) + 1) + 1)).2) = true then
    zl (uI J209 ((((((((((((n + 1) + 1) + 1) + 1) + 1) + 1) + 1) + 1) + 1) + 1) + 1) + 1) (2 : Int32).toNatClampNeg (107 : Int32)) fun J212 =>
    if zib (3 : Int32) ((D198 ((((((((((((n + 1) + 1) + 1) + 1) + 1) + 1) + 1) + 1) + 1) + 1) + 1) + 1)).2) = true then
    zl (uI J212 ((((((((((((n + 1) + 1) + 1) + 1) + 1) + 1) + 1) + 1) + 1) + 1) + 1) + 1) (3 : Int32).toNatClampNeg (101 : Int32)) fun J215 =>
    if zib (4 : Int32) ((D198 ((((((((((((n + 1) + 1) + 1) + 1) + 1) + 1) + 1) + 1) + 1) + 1) + 1) + 1)).2) = true then
    zl (uI J215 ((((((((((((n + 1) + 1) + 1) + 1) + 1) + 1) + 1) + 1) + 1) + 1) + 1) + 1) (4 : Int32).toNatClampNeg (115 : Int32)) fun J218 =>
    if zib (5 : Int32) ((D198 ((((((((((((n + 1) + 1) + 1) + 1) + 1) + 1) + 1) + 1) + 1) + 1) + 1) + 1)).2) = true then
    zl (uI J218 ((((((((((((n + 1) + 1) + 1) + 1) + 1) + 1) + 1) + 1) + 1) + 1) + 1) + 1) (5 : Int32).toNatClampNeg (32 : Int32)) fun J221 =>
    if zib (6 : Int32) ((D198 ((((((((((((n + 1) + 1) + 1) + 1) + 1) + 1) + 1) + 1) + 1) + 1) + 1) + 1)).2) = true then
    zl (uI J221 ((((((((((((n + 1) + 1) + 1) + 1) + 1) + 1) + 1) + 1) + 1) + 1) + 1) + 1) (6 : Int32).toNatClampNeg (50 : Int32)) fun J224 =>
    if zib (7 : Int32) ((D198 ((((((((((((n + 1) + 1) + 1) + 1) + 1) + 1) + 1) + 1) + 1) + 1) + 1) + 1)).2) = true then
    zl (uI J224 ((((((((((((n + 1) + 1) + 1) + 1) + 1) + 1) + 1) + 1) + 1) + 1) + 1) + 1) (7 : Int32).toNatClampNeg (32 : Int32)) fun J227 =>
    if zib (8 : Int32) ((D198 ((((((((((((n + 1) + 1) + 1) + 1) + 1) + 1) + 1) + 1) + 1) + 1) + 1) + 1)).2) = true then
    zl (uI J227 ((((((((((((n + 1) + 1) + 1) + 1) + 1) + 1) + 1) + 1) + 1) + 1) + 1) + 1) (8 : Int32).toNatClampNeg (59 : Int32)) fun J230 =>
    if zib (9 : Int32) ((D198 ((((((((((((n + 1) + 1) + 1) + 1) + 1) + 1) + 1) + 1) + 1) + 1) + 1) + 1)).2) = true then
    zl (uI J230 ((((((((((((n + 1) + 1) + 1) + 1) + 1) + 1) + 1) + 1) + 1) + 1) + 1) + 1) (9 : Int32).toNatClampNeg (32 : Int32)) fun J233 =>
    if zib (10 : Int32) ((D198 ((((((((((((n + 1) + 1) + 1) + 1) + 1) + 1) + 1) + 1) + 1) + 1) + 1) + 1)).2) = true then
    zl (uI J233 ((((((((((((n + 1) + 1) + 1) + 1) + 1) + 1) + 1) + 1) + 1) + 1) + 1) + 1) (10 : Int32).toNatClampNeg (115 : Int32)) fun J236 =>
    if zib (11 : Int32) ((D198 ((((((((((((n + 1) + 1) + 1) + 1) + 1) + 1) + 1) + 1) + 1) + 1) + 1) + 1)).2) = true then
    zl (uI J236 ((((((((((((n + 1) + 1) + 1) + 1) + 1) + 1) + 1) + 1) + 1) + 1) + 1) + 1) (11 : Int32).toNatClampNeg (116 : Int32)) fun J239 =>
    if zib (12 : Int32) ((D198 ((((((((((((n + 1) + 1) + 1) + 1) + 1) + 1) + 1) + 1) + 1) + 1) + 1) + 1)).2) = true then
    zl (uI J239 ((((((((((((n + 1) + 1) + 1) + 1) + 1) + 1) + 1) + 1) + 1) + 1) + 1) + 1) (12 : Int32).toNatClampNeg (101 : Int32)) fun J242 =>
    if zib (13 : Int32) ((D198 ((((((((((((n + 1) + 1) + 1) + 1) + 1) + 1) + 1) + 1) + 1) + 1) + 1) + 1)).2) = true then
    zl (uI J242 ((((((((((((n + 1) + 1) + 1) + 1) + 1) + 1) + 1) + 1) + 1) + 1) + 1) + 1) (13 : Int32).toNatClampNeg (112 : Int32)) fun J245 =>
    if zib (14 : Int32) ((D198 ((((((((((((n + 1) + 1) + 1) + 1) + 1) + 1) + 1) + 1) + 1) + 1) + 1) + 1)).2) = true then
    zl (uI J245 ((((((((((((n + 1) + 1) + 1) + 1) + 1) + 1) + 1) + 1) + 1) + 1) + 1) + 1) (14 : Int32).toNatClampNeg (115 : Int32)) fun J248 =>
    if zib (15 : Int32) ((D198 ((((((((((((n + 1) + 1) + 1) + 1) + 1) + 1) + 1) + 1) + 1) + 1) + 1) + 1)).2) = true then
    zl (uI J248 ((((((((((((n + 1) + 1) + 1) + 1) + 1) + 1) + 1) + 1) + 1) + 1) + 1) + 1) (15 : Int32).toNatClampNeg (32 : Int32)) fun J251 =>
    if zib (16 : Int32) ((D198 ((((((((((((n + 1) + 1) + 1) + 1) + 1) + 1) + 1) + 1) + 1) + 1) + 1) + 1)).2) = true then
    zl (uI J251 ((((((((((((n + 1) + 1) + 1) + 1) + 1) + 1) + 1) + 1) + 1) + 1) + 1) + 1) (16 : Int32).toNatClampNeg (49 : Int32)) fun J254 =>
    if zib (17 : Int32) ((D198 ((((((((((((n + 1) + 1) + 1) + 1) + 1) + 1) + 1) + 1) + 1) + 1) + 1) + 1)).2) = true then
    zl (uI J254 ((((((((((((n + 1) + 1) + 1) + 1) + 1) + 1) + 1) + 1) + 1) + 1) + 1) + 1) (17 : Int32).toNatClampNeg (32 : Int32)) fun J257 =>
    if zib (18 : Int32) ((D198 ((((((((((((n + 1) + 1) + 1) + 1) + 1) + 1) + 1) + 1) + 1) + 1) + 1) + 1)).2) = true then
    zl (uI J257 ((((((((((((n + 1) + 1) + 1) + 1) + 1) + 1) + 1) + 1) + 1) + 1) + 1) + 1) (18 : Int32).toNatClampNeg (59 : Int32)) fun J260 =>
    if zib (19 : Int32) ((D198 ((((((((((((n + 1) + 1) + 1) + 1) + 1) + 1) + 1) + 1) + 1) + 1) + 1) + 1)).2) = true then
    zl (uI J260 ((((((((((((n + 1) + 1) + 1) + 1) + 1) + 1) + 1) + 1) + 1) + 1) + 1) + 1) (19 : Int32).toNatClampNeg (32 : Int32)) fun J263 =>
    if zib (20 : Int32) ((D198 ((((((((((((n + 1) + 1) + 1) + 1) + 1) + 1) + 1) + 1) + 1) + 1) + 1) + 1)).2) = true then
    zl (uI J263 ((((((((((((n + 1) + 1) + 1) + 1) + 1) + 1) + 1) + 1) + 1) + 1) + 1) + 1) (20 : Int32).toNatClampNeg (109 : Int32)) fun J266 =>
    if zib (21 : Int32) ((D198 ((((((((((((n + 1) + 1) + 1) + 1) + 1) + 1) + 1) + 1) + 1) + 1) + 1) + 1)).2) = true then
    zl (uI J266 ((((((((((((n + 1) + 1) + 1) + 1) + 1) + 1) + 1) + 1) + 1) + 1) + 1) + 1) (21 : Int32).toNatClampNeg (105 : Int32)) fun J269 =>
    if zib (22 : Int32) ((D198 ((((((((((((n + 1) + 1) + 1) + 1) + 1) + 1) + 1) + 1) + 1) + 1) + 1) + 1)).2) = true then
    zl (uI J269 ((((((((((((n + 1) + 1) + 1) + 1) + 1) + 1) + 1) + 1) + 1) + 1) + 1) + 1) (22 : Int32).toNatClampNeg (110 : Int32)) fun J272 =>
    if zib (23 : Int32) ((D198 ((((((((((((n + 1) + 1) + 1) + 1) + 1) + 1) + 1) + 1) + 1) + 1) + 1) + 1)).2) = true then
    zl (uI J272 ((((((((((((n + 1) + 1) + 1) + 1) + 1) + 1) + 1) + 1) + 1) + 1) + 1) + 1) (23 : Int32).toNatClampNeg (100 : Int32)) fun J275 =>
    if zib (24 : Int32) ((D198 ((((((((((((n + 1) + 1) + 1) + 1) + 1) + 1) + 1) + 1) + 1) + 1) + 1) + 1)).2) = true then
    zl (uI J275 ((((((((((((n + 1) + 1) + 1) + 1) + 1) + 1) + 1) + 1) + 1) + 1) + 1) + 1) (24 : Int32).toNatClampNeg (115 : Int32)) fun J278 =>
    if zib (25 : Int32) ((D198 ((((((((((((n + 1) + 1) + 1) + 1) + 1) + 1) + 1) + 1) + 1) + 1) + 1) + 1)).2) = true then
    zl (uI J278 ((((((((((((n + 1) + 1) + 1) + 1) + 1) + 1) + 1) + 1) + 1) + 1) + 1) + 1) (25 : Int32).toNatClampNeg (32 : Int32)) fun J281 =>
    if zib (26 : Int32) ((D198 ((((((((((((n + 1) + 1) + 1) + 1) + 1) + 1) + 1) + 1) + 1) + 1) + 1) + 1)).2) = true then
    zl (uI J281 ((((((((((((n + 1) + 1) + 1) + 1) + 1) + 1) + 1) + 1) + 1) + 1) + 1) + 1) (26 : Int32).toNatClampNeg (49 : Int32)) fun J284 =>
    if zib (27 : Int32) ((D198 ((((((((((((n + 1) + 1) + 1) + 1) + 1) + 1) + 1) + 1) + 1) + 1) + 1) + 1)).2) = true then
    zl (uI J284 ((((((((((((n + 1) + 1) + 1) + 1) + 1) + 1) + 1) + 1) + 1) + 1) + 1) + 1) (27 : Int32).toNatClampNeg (32 : Int32)) fun J287 =>
    if zib (28 : Int32) ((D198 ((((((((((((n + 1) + 1) + 1) + 1) + 1) + 1) + 1) + 1) + 1) + 1) + 1) + 1)).2) = true then
    zl (uI J287 ((((((((((((n + 1) + 1) + 1) + 1) + 1) + 1) + 1) + 1) + 1) + 1) + 1) + 1) (28 : Int32).toNatClampNeg (59 : Int32)) fun J290 =>
    if zKdB (((((((((((((n + 1) + 1) + 1) + 1) + 1) + 1) + 1) + 1) + 1) + 1) + 1) + 1) + 1) D198 l0 28 = true then
    zl (uR T202 l0 21 (some ((((((((((((n + 1) + 1) + 1) + 1) + 1) + 1) + 1) + 1) + 1) + 1) + 1) + 1))) fun T293 =>
    zl (uK D198 (((((((((((((n + 1) + 1) + 1) + 1) + 1) + 1) + 1) + 1) + 1) + 1) + 1) + 1) + 1) (0, 96)) fun D297 =>
    zl (uA J290 (((((((((((((n + 1) + 1) + 1) + 1) + 1) + 1) + 1) + 1) + 1) + 1) + 1) + 1) + 1) (fun _ => 0)) fun J299 =>
    zl (uRA T293 (((((((((((((n + 1) + 1) + 1) + 1) + 1) + 1) + 1) + 1) + 1) + 1) + 1) + 1) + 1)) fun T301 =>
    if zKdB ((((((((((((((n + 1) + 1) + 1) + 1) + 1) + 1) + 1) + 1) + 1) + 1) + 1) + 1) + 1) + 1) D297 (((((((((((((n + 1) + 1) + 1) + 1) + 1) + 1) + 1) + 1) + 1) + 1) + 1) + 1) + 1) 0 = true then
    if zib (0 : Int32) ((D297 (((((((((((((n + 1) + 1) + 1) + 1) + 1) + 1) + 1) + 1) + 1) + 1) + 1) + 1) + 1)).2) = true then
    zl (uI J299 (((((((((((((n + 1) + 1) + 1) + 1) + 1) + 1) + 1) + 1) + 1) + 1) + 1) + 1) + 1) (0 : Int32).toNatClampNeg (116 : Int32)) fun J305 =>
    if zib (1 : Int32) ((D297 (((((((((((((n + 1) + 1) + 1) + 1) + 1) + 1) + 1) + 1) + 1) + 1) + 1) + 1) + 1)).2) = true then
    zl (uI J305 (((((((((((((n + 1) + 1) + 1) + 1) + 1) + 1) + 1) + 1) + 1) + 1) + 1) + 1) + 1) (1 : Int32).toNatClampNeg (97 : Int32)) fun J308 =>
    if zib (2 : Int32) ((D297 (((((((((((((n + 1) + 1) + 1) + 1) + 1) + 1) + 1) + 1) + 1) + 1) + 1) + 1) + 1)).2) = true then
    zl (uI J308 (((((((((((((n + 1) + 1) + 1) + 1) + 1) + 1) + 1) + 1) + 1) + 1) + 1) + 1) + 1) (2 : Int32).toNatClampNeg (107 : Int32)) fun J311 =>
    if zib (3 : Int32) ((D297 (((((((((((((n + 1) + 1) + 1) + 1) + 1) + 1) + 1) + 1) + 1) + 1) + 1) + 1) + 1)).2) = true then
    zl (uI J311 (((((((((((((n + 1) + 1) + 1) + 1) + 1) + 1) + 1) + 1) + 1) + 1) + 1) + 1) + 1) (3 : Int32).toNatClampNeg (101 : Int32)) fun J314 =>
    if zib (4 : Int32) ((D297 (((((((((((((n + 1) + 1) + 1) + 1) + 1) + 1) + 1) + 1) + 1) + 1) + 1) + 1) + 1)).2) = true then
    zl (uI J314 (((((((((((((n + 1) + 1) + 1) + 1) + 1) + 1) + 1) + 1) + 1) + 1) + 1) + 1) + 1) (4 : Int32).toNatClampNeg (115 : Int32)) fun J317 =>
    if zib (5 : Int32) ((D297 (((((((((((((n + 1) + 1) + 1) + 1) + 1) + 1) + 1) + 1) + 1) + 1) + 1) + 1) + 1)).2) = true then
    zl (uI J317 (((((((((((((n + 1) + 1) + 1) + 1) + 1) + 1) + 1) + 1) + 1) + 1) + 1) + 1) + 1) (5 : Int32).toNatClampNeg (32 : Int32)) fun J320 =>
    if zib (6 : Int32) ((D297 (((((((((((((n + 1) + 1) + 1) + 1) + 1) + 1) + 1) + 1) + 1) + 1) + 1) + 1) + 1)).2) = true then
    zl (uI J320 (((((((((((((n + 1) + 1) + 1) + 1) + 1) + 1) + 1) + 1) + 1) + 1) + 1) + 1) + 1) (6 : Int32).toNatClampNeg (32 : Int32)) fun J323 =>
    if zib (7 : Int32) ((D297 (((((((((((((n + 1) + 1) + 1) + 1) + 1) + 1) + 1) + 1) + 1) + 1) + 1) + 1) + 1)).2) = true then
    zl (uI J323 (((((((((((((n + 1) + 1) + 1) + 1) + 1) + 1) + 1) + 1) + 1) + 1) + 1) + 1) + 1) (7 : Int32).toNatClampNeg (32 : Int32)) fun J326 =>
    if zib (8 : Int32) ((D297 (((((((((((((n + 1) + 1) + 1) + 1) + 1) + 1) + 1) + 1) + 1) + 1) + 1) + 1) + 1)).2) = true then
    zl (uI J326 (((((((((((((n + 1) + 1) + 1) + 1) + 1) + 1) + 1) + 1) + 1) + 1) + 1) + 1) + 1) (8 : Int32).toNatClampNeg (115 : Int32)) fun J329 =>
    if zib (9 : Int32) ((D297 (((((((((((((n + 1) + 1) + 1) + 1) + 1) + 1) + 1) + 1) + 1) + 1) + 1) + 1) + 1)).2) = true then
    zl (uI J329 (((((((((((((n + 1) + 1) + 1) + 1) + 1) + 1) + 1) + 1) + 1) + 1) + 1) + 1) + 1) (9 : Int32).toNatClampNeg (116 : Int32)) fun J332 =>
    if zib (10 : Int32) ((D297 (((((((((((((n + 1) + 1) + 1) + 1) + 1) + 1) + 1) + 1) + 1) + 1) + 1) + 1) + 1)).2) = true then
    zl (uI J332 (((((((((((((n + 1) + 1) + 1) + 1) + 1) + 1) + 1) + 1) + 1) + 1) + 1) + 1) + 1) (10 : Int32).toNatClampNeg (101 : Int32)) fun J335 =>
    if zib (11 : Int32) ((D297 (((((((((((((n + 1) + 1) + 1) + 1) + 1) + 1) + 1) + 1) + 1) + 1) + 1) + 1) + 1)).2) = true then
    zl (uI J335 (((((((((((((n + 1) + 1) + 1) + 1) + 1) + 1) + 1) + 1) + 1) + 1) + 1) + 1) + 1) (11 : Int32).toNatClampNeg (112 : Int32)) fun J338 =>
    if zib (12 : Int32) ((D297 (((((((((((((n + 1) + 1) + 1) + 1) + 1) + 1) + 1) + 1) + 1) + 1) + 1) + 1) + 1)).2) = true then
    zl (uI J338 (((((((((((((n + 1) + 1) + 1) + 1) + 1) + 1) + 1) + 1) + 1) + 1) + 1) + 1) + 1) (12 : Int32).toNatClampNeg (115 : Int32)) fun J341 =>
    if zib (13 : Int32) ((D297 (((((((((((((n + 1) + 1) + 1) + 1) + 1) + 1) + 1) + 1) + 1) + 1) + 1) + 1) + 1)).2) = true then
    zl (uI J341 (((((((((((((n + 1) + 1) + 1) + 1) + 1) + 1) + 1) + 1) + 1) + 1) + 1) + 1) + 1) (13 : Int32).toNatClampNeg (32 : Int32)) fun J344 =>
    if zib (14 : Int32) ((D297 (((((((((((((n + 1) + 1) + 1) + 1) + 1) + 1) + 1) + 1) + 1) + 1) + 1) + 1) + 1)).2) = true then
    zl (uI J344 (((((((((((((n + 1) + 1) + 1) + 1) + 1) + 1) + 1) + 1) + 1) + 1) + 1) + 1) + 1) (14 : Int32).toNatClampNeg (32 : Int32)) fun J347 =>
    if zib (15 : Int32) ((D297 (((((((((((((n + 1) + 1) + 1) + 1) + 1) + 1) + 1) + 1) + 1) + 1) + 1) + 1) + 1)).2) = true then
    zl (uI J347 (((((((((((((n + 1) + 1) + 1) + 1) + 1) + 1) + 1) + 1) + 1) + 1) + 1) + 1) + 1) (15 : Int32).toNatClampNeg (32 : Int32)) fun J350 =>
    if zib (16 : Int32) ((D297 (((((((((((((n + 1) + 1) + 1) + 1) + 1) + 1) + 1) + 1) + 1) + 1) + 1) + 1) + 1)).2) = true then
    zl (uI J350 (((((((((((((n + 1) + 1) + 1) + 1) + 1) + 1) + 1) + 1) + 1) + 1) + 1) + 1) + 1) (16 : Int32).toNatClampNeg (109 : Int32)) fun J353 =>
    if zib (17 : Int32) ((D297 (((((((((((((n + 1) + 1) + 1) + 1) + 1) + 1) + 1) + 1) + 1) + 1) + 1) + 1) + 1)).2) = true then
    zl (uI J353 (((((((((((((n + 1) + 1) + 1) + 1) + 1) + 1) + 1) + 1) + 1) + 1) + 1) + 1) + 1) (17 : Int32).toNatClampNeg (105 : Int32)) fun J356 =>
    if zib (18 : Int32) ((D297 (((((((((((((n + 1) + 1) + 1) + 1) + 1) + 1) + 1) + 1) + 1) + 1) + 1) + 1) + 1)).2) = true then
    zl (uI J356 (((((((((((((n + 1) + 1) + 1) + 1) + 1) + 1) + 1) + 1) + 1) + 1) + 1) + 1) + 1) (18 : Int32).toNatClampNeg (110 : Int32)) fun J359 =>
    if zib (19 : Int32) ((D297 (((((((((((((n + 1) + 1) + 1) + 1) + 1) + 1) + 1) + 1) + 1) + 1) + 1) + 1) + 1)).2) = true then
    zl (uI J359 (((((((((((((n + 1) + 1) + 1) + 1) + 1) + 1) + 1) + 1) + 1) + 1) + 1) + 1) + 1) (19 : Int32).toNatClampNeg (100 : Int32)) fun J362 =>
    if zib (20 : Int32) ((D297 (((((((((((((n + 1) + 1) + 1) + 1) + 1) + 1) + 1) + 1) + 1) + 1) + 1) + 1) + 1)).2) = true then
    zl (uI J362 (((((((((((((n + 1) + 1) + 1) + 1) + 1) + 1) + 1) + 1) + 1) + 1) + 1) + 1) + 1) (20 : Int32).toNatClampNeg (115 : Int32)) fun J365 =>
    if zib (21 : Int32) ((D297 (((((((((((((n + 1) + 1) + 1) + 1) + 1) + 1) + 1) + 1) + 1) + 1) + 1) + 1) + 1)).2) = true then
    zl (uI J365 (((((((((((((n + 1) + 1) + 1) + 1) + 1) + 1) + 1) + 1) + 1) + 1) + 1) + 1) + 1) (21 : Int32).toNatClampNeg (32 : Int32)) fun J368 =>
    if zib (22 : Int32) ((D297 (((((((((((((n + 1) + 1) + 1) + 1) + 1) + 1) + 1) + 1) + 1) + 1) + 1) + 1) + 1)).2) = true then
    zl (uI J368 (((((((((((((n + 1) + 1) + 1) + 1) + 1) + 1) + 1) + 1) + 1) + 1) + 1) + 1) + 1) (22 : Int32).toNatClampNeg (32 : Int32)) fun J371 =>
    if zib (23 : Int32) ((D297 (((((((((((((n + 1) + 1) + 1) + 1) + 1) + 1) + 1) + 1) + 1) + 1) + 1) + 1) + 1)).2) = true then
    zl (uI J371 (((((((((((((n + 1) + 1) + 1) + 1) + 1) + 1) + 1) + 1) + 1) + 1) + 1) + 1) + 1) (23 : Int32).toNatClampNeg (32 : Int32)) fun J374 =>
    if zib (24 : Int32) ((D297 (((((((((((((n + 1) + 1) + 1) + 1) + 1) + 1) + 1) + 1) + 1) + 1) + 1) + 1) + 1)).2) = true then
    zl (uI J374 (((((((((((((n + 1) + 1) + 1) + 1) + 1) + 1) + 1) + 1) + 1) + 1) + 1) + 1) + 1) (24 : Int32).toNatClampNeg (104 : Int32)) fun J377 =>
    if zib (25 : Int32) ((D297 (((((((((((((n + 1) + 1) + 1) + 1) + 1) + 1) + 1) + 1) + 1) + 1) + 1) + 1) + 1)).2) = true then
    zl (uI J377 (((((((((((((n + 1) + 1) + 1) + 1) + 1) + 1) + 1) + 1) + 1) + 1) + 1) + 1) + 1) (25 : Int32).toNatClampNeg (101 : Int32)) fun J380 =>
    if zib (26 : Int32) ((D297 (((((((((((((n + 1) + 1) + 1) + 1) + 1) + 1) + 1) + 1) + 1) + 1) + 1) + 1) + 1)).2) = true then
    zl (uI J380 (((((((((((((n + 1) + 1) + 1) + 1) + 1) + 1) + 1) + 1) + 1) + 1) + 1) + 1) + 1) (26 : Int32).toNatClampNeg (97 : Int32)) fun J383 =>
    if zib (27 : Int32) ((D297 (((((((((((((n + 1) + 1) + 1) + 1) + 1) + 1) + 1) + 1) + 1) + 1) + 1) + 1) + 1)).2) = true then
    zl (uI J383 (((((((((((((n + 1) + 1) + 1) + 1) + 1) + 1) + 1) + 1) + 1) + 1) + 1) + 1) + 1) (27 : Int32).toNatClampNeg (112 : Int32)) fun J386 =>
    if zib (28 : Int32) ((D297 (((((((((((((n + 1) + 1) + 1) + 1) + 1) + 1) + 1) + 1) + 1) + 1) + 1) + 1) + 1)).2) = true then
    zl (uI J386 (((((((((((((n + 1) + 1) + 1) + 1) + 1) + 1) + 1) + 1) + 1) + 1) + 1) + 1) + 1) (28 : Int32).toNatClampNeg (32 : Int32)) fun J389 =>
    if zib (29 : Int32) ((D297 (((((((((((((n + 1) + 1) + 1) + 1) + 1) + 1) + 1) + 1) + 1) + 1) + 1) + 1) + 1)).2) = true then
    zl (uI J389 (((((((((((((n + 1) + 1) + 1) + 1) + 1) + 1) + 1) + 1) + 1) + 1) + 1) + 1) + 1) (29 : Int32).toNatClampNeg (32 : Int32)) fun J392 =>
    if zib (30 : Int32) ((D297 (((((((((((((n + 1) + 1) + 1) + 1) + 1) + 1) + 1) + 1) + 1) + 1) + 1) + 1) + 1)).2) = true then
    zl (uI J392 (((((((((((((n + 1) + 1) + 1) + 1) + 1) + 1) + 1) + 1) + 1) + 1) + 1) + 1) + 1) (30 : Int32).toNatClampNeg (32 : Int32)) fun J395 =>
    if zib (31 : Int32) ((D297 (((((((((((((n + 1) + 1) + 1) + 1) + 1) + 1) + 1) + 1) + 1) + 1) + 1) + 1) + 1)).2) = true then
    zl (uI J395 (((((((((((((n + 1) + 1) + 1) + 1) + 1) + 1) + 1) + 1) + 1) + 1) + 1) + 1) + 1) (31 : Int32).toNatClampNeg (32 : Int32)) fun J398 =>
    if zib (32 : Int32) ((D297 (((((((((((((n + 1) + 1) + 1) + 1) + 1) + 1) + 1) + 1) + 1) + 1) + 1) + 1) + 1)).2) = true then
    zl (uI J398 (((((((((((((n + 1) + 1) + 1) + 1) + 1) + 1) + 1) + 1) + 1) + 1) + 1) + 1) + 1) (32 : Int32).toNatClampNeg (119 : Int32)) fun J401 =>
    if zib (33 : Int32) ((D297 (((((((((((((n + 1) + 1) + 1) + 1) + 1) + 1) + 1) + 1) + 1) + 1) + 1) + 1) + 1)).2) = true then
    zl (uI J401 (((((((((((((n + 1) + 1) + 1) + 1) + 1) + 1) + 1) + 1) + 1) + 1) + 1) + 1) + 1) (33 : Int32).toNatClampNeg (97 : Int32)) fun J404 =>
    if zib (34 : Int32) ((D297 (((((((((((((n + 1) + 1) + 1) + 1) + 1) + 1) + 1) + 1) + 1) + 1) + 1) + 1) + 1)).2) = true then
    zl (uI J404 (((((((((((((n + 1) + 1) + 1) + 1) + 1) + 1) + 1) + 1) + 1) + 1) + 1) + 1) + 1) (34 : Int32).toNatClampNeg (108 : Int32)) fun J407 =>
    if zib (35 : Int32) ((D297 (((((((((((((n + 1) + 1) + 1) + 1) + 1) + 1) + 1) + 1) + 1) + 1) + 1) + 1) + 1)).2) = true then
    zl (uI J407 (((((((((((((n + 1) + 1) + 1) + 1) + 1) + 1) + 1) + 1) + 1) + 1) + 1) + 1) + 1) (35 : Int32).toNatClampNeg (107 : Int32)) fun J410 =>
    if zib (36 : Int32) ((D297 (((((((((((((n + 1) + 1) + 1) + 1) + 1) + 1) + 1) + 1) + 1) + 1) + 1) + 1) + 1)).2) = true then
    zl (uI J410 (((((((((((((n + 1) + 1) + 1) + 1) + 1) + 1) + 1) + 1) + 1) + 1) + 1) + 1) + 1) (36 : Int32).toNatClampNeg (101 : Int32)) fun J413 =>
    if zib (37 : Int32) ((D297 (((((((((((((n + 1) + 1) + 1) + 1) + 1) + 1) + 1) + 1) + 1) + 1) + 1) + 1) + 1)).2) = true then
    zl (uI J413 (((((((((((((n + 1) + 1) + 1) + 1) + 1) + 1) + 1) + 1) + 1) + 1) + 1) + 1) + 1) (37 : Int32).toNatClampNeg (114 : Int32)) fun J416 =>
    if zib (38 : Int32) ((D297 (((((((((((((n + 1) + 1) + 1) + 1) + 1) + 1) + 1) + 1) + 1) + 1) + 1) + 1) + 1)).2) = true then
    zl (uI J416 (((((((((((((n + 1) + 1) + 1) + 1) + 1) + 1) + 1) + 1) + 1) + 1) + 1) + 1) + 1) (38 : Int32).toNatClampNeg (32 : Int32)) fun J419 =>
    if zib (39 : Int32) ((D297 (((((((((((((n + 1) + 1) + 1) + 1) + 1) + 1) + 1) + 1) + 1) + 1) + 1) + 1) + 1)).2) = true then
    zl (uI J419 (((((((((((((n + 1) + 1) + 1) + 1) + 1) + 1) + 1) + 1) + 1) + 1) + 1) + 1) + 1) (39 : Int32).toNatClampNeg (32 : Int32)) fun J422 =>
    if zib (40 : Int32) ((D297 (((((((((((((n + 1) + 1) + 1) + 1) + 1) + 1) + 1) + 1) + 1) + 1) + 1) + 1) + 1)).2) = true then
    zl (uI J422 (((((((((((((n + 1) + 1) + 1) + 1) + 1) + 1) + 1) + 1) + 1) + 1) + 1) + 1) + 1) (40 : Int32).toNatClampNeg (109 : Int32)) fun J425 =>
    if zib (41 : Int32) ((D297 (((((((((((((n + 1) + 1) + 1) + 1) + 1) + 1) + 1) + 1) + 1) + 1) + 1) + 1) + 1)).2) = true then
    zl (uI J425 (((((((((((((n + 1) + 1) + 1) + 1) + 1) + 1) + 1) + 1) + 1) + 1) + 1) + 1) + 1) (41 : Int32).toNatClampNeg (111 : Int32)) fun J428 =>
    if zib (42 : Int32) ((D297 (((((((((((((n + 1) + 1) + 1) + 1) + 1) + 1) + 1) + 1) + 1) + 1) + 1) + 1) + 1)).2) = true then
    zl (uI J428 (((((((((((((n + 1) + 1) + 1) + 1) + 1) + 1) + 1) + 1) + 1) + 1) + 1) + 1) + 1) (42 : Int32).toNatClampNeg (114 : Int32)) fun J431 =>
    if zib (43 : Int32) ((D297 (((((((((((((n + 1) + 1) + 1) + 1) + 1) + 1) + 1) + 1) + 1) + 1) + 1) + 1) + 1)).2) = true then
    zl (uI J431 (((((((((((((n + 1) + 1) + 1) + 1) + 1) + 1) + 1) + 1) + 1) + 1) + 1) + 1) + 1) (43 : Int32).toNatClampNeg (101 : Int32)) fun J434 =>
    if zib (44 : Int32) ((D297 (((((((((((((n + 1) + 1) + 1) + 1) + 1) + 1) + 1) + 1) + 1) + 1) + 1) + 1) + 1)).2) = true then
    zl (uI J434 (((((((((((((n + 1) + 1) + 1) + 1) + 1) + 1) + 1) + 1) + 1) + 1) + 1) + 1) + 1) (44 : Int32).toNatClampNeg (32 : Int32)) fun J437 =>
    if zib (45 : Int32) ((D297 (((((((((((((n + 1) + 1) + 1) + 1) + 1) + 1) + 1) + 1) + 1) + 1) + 1) + 1) + 1)).2) = true then
    zl (uI J437 (((((((((((((n + 1) + 1) + 1) + 1) + 1) + 1) + 1) + 1) + 1) + 1) + 1) + 1) + 1) (45 : Int32).toNatClampNeg (32 : Int32)) fun J440 =>
    if zib (46 : Int32) ((D297 (((((((((((((n + 1) + 1) + 1) + 1) + 1) + 1) + 1) + 1) + 1) + 1) + 1) + 1) + 1)).2) = true then
    zl (uI J440 (((((((((((((n + 1) + 1) + 1) + 1) + 1) + 1) + 1) + 1) + 1) + 1) + 1) + 1) + 1) (46 : Int32).toNatClampNeg (32 : Int32)) fun J443 =>
    if zib (47 : Int32) ((D297 (((((((((((((n + 1) + 1) + 1) + 1) + 1) + 1) + 1) + 1) + 1) + 1) + 1) + 1) + 1)).2) = true then
    zl (uI J443 (((((((((((((n + 1) + 1) + 1) + 1) + 1) + 1) + 1) + 1) + 1) + 1) + 1) + 1) + 1) (47 : Int32).toNatClampNeg (32 : Int32)) fun J446 =>
    if zib (48 : Int32) ((D297 (((((((((((((n + 1) + 1) + 1) + 1) + 1) + 1) + 1) + 1) + 1) + 1) + 1) + 1) + 1)).2) = true then
    zl (uI J446 (((((((((((((n + 1) + 1) + 1) + 1) + 1) + 1) + 1) + 1) + 1) + 1) + 1) + 1) + 1) (48 : Int32).toNatClampNeg (108 : Int32)) fun J449 =>
    if zib (49 : Int32) ((D297 (((((((((((((n + 1) + 1) + 1) + 1) + 1) + 1) + 1) + 1) + 1) + 1) + 1) + 1) + 1)).2) = true then
    zl (uI J449 (((((((((((((n + 1) + 1) + 1) + 1) + 1) + 1) + 1) + 1) + 1) + 1) + 1) + 1) + 1) (49 : Int32).toNatClampNeg (101 : Int32)) fun J452 =>
    if zib (50 : Int32) ((D297 (((((((((((((n + 1) + 1) + 1) + 1) + 1) + 1) + 1) + 1) + 1) + 1) + 1) + 1) + 1)).2) = true then
    zl (uI J452 (((((((((((((n + 1) + 1) + 1) + 1) + 1) + 1) + 1) + 1) + 1) + 1) + 1) + 1) + 1) (50 : Int32).toNatClampNeg (102 : Int32)) fun J455 =>
    if zib (51 : Int32) ((D297 (((((((((((((n + 1) + 1) + 1) + 1) + 1) + 1) + 1) + 1) + 1) + 1) + 1) + 1) + 1)).2) = true then
    zl (uI J455 (((((((((((((n + 1) + 1) + 1) + 1) + 1) + 1) + 1) + 1) + 1) + 1) + 1) + 1) + 1) (51 : Int32).toNatClampNeg (116 : Int32)) fun J458 =>
    if zib (52 : Int32) ((D297 (((((((((((((n + 1) + 1) + 1) + 1) + 1) + 1) + 1) + 1) + 1) + 1) + 1) + 1) + 1)).2) = true then
    zl (uI J458 (((((((((((((n + 1) + 1) + 1) + 1) + 1) + 1) + 1) + 1) + 1) + 1) + 1) + 1) + 1) (52 : Int32).toNatClampNeg (32 : Int32)) fun J461 =>
    if zib (53 : Int32) ((D297 (((((((((((((n + 1) + 1) + 1) + 1) + 1) + 1) + 1) + 1) + 1) + 1) + 1) + 1) + 1)).2) = true then
    zl (uI J461 (((((((((((((n + 1) + 1) + 1) + 1) + 1) + 1) + 1) + 1) + 1) + 1) + 1) + 1) + 1) (53 : Int32).toNatClampNeg (32 : Int32)) fun J464 =>
    if zib (54 : Int32) ((D297 (((((((((((((n + 1) + 1) + 1) + 1) + 1) + 1) + 1) + 1) + 1) + 1) + 1) + 1) + 1)).2) = true then
    zl (uI J464 (((((((((((((n + 1) + 1) + 1) + 1) + 1) + 1) + 1) + 1) + 1) + 1) + 1) + 1) + 1) (54 : Int32).toNatClampNeg (32 : Int32)) fun J467 =>
    if zib (55 : Int32) ((D297 (((((((((((((n + 1) + 1) + 1) + 1) + 1) + 1) + 1) + 1) + 1) + 1) + 1) + 1) + 1)).2) = true then
    zl (uI J467 (((((((((((((n + 1) + 1) + 1) + 1) + 1) + 1) + 1) + 1) + 1) + 1) + 1) + 1) + 1) (55 : Int32).toNatClampNeg (32 : Int32)) fun J470 =>
    if zib (56 : Int32) ((D297 (((((((((((((n + 1) + 1) + 1) + 1) + 1) + 1) + 1) + 1) + 1) + 1) + 1) + 1) + 1)).2) = true then
    zl (uI J470 (((((((((((((n + 1) + 1) + 1) + 1) + 1) + 1) + 1) + 1) + 1) + 1) + 1) + 1) + 1) (56 : Int32).toNatClampNeg (100 : Int32)) fun J473 =>
    if zib (57 : Int32) ((D297 (((((((((((((n + 1) + 1) + 1) + 1) + 1) + 1) + 1) + 1) + 1) + 1) + 1) + 1) + 1)).2) = true then
    zl (uI J473 (((((((((((((n + 1) + 1) + 1) + 1) + 1) + 1) + 1) + 1) + 1) + 1) + 1) + 1) + 1) (57 : Int32).toNatClampNeg (111 : Int32)) fun J476 =>
    if zib (58 : Int32) ((D297 (((((((((((((n + 1) + 1) + 1) + 1) + 1) + 1) + 1) + 1) + 1) + 1) + 1) + 1) + 1)).2) = true then
    zl (uI J476 (((((((((((((n + 1) + 1) + 1) + 1) + 1) + 1) + 1) + 1) + 1) + 1) + 1) + 1) + 1) (58 : Int32).toNatClampNeg (110 : Int32)) fun J479 =>
    if zib (59 : Int32) ((D297 (((((((((((((n + 1) + 1) + 1) + 1) + 1) + 1) + 1) + 1) + 1) + 1) + 1) + 1) + 1)).2) = true then
    zl (uI J479 (((((((((((((n + 1) + 1) + 1) + 1) + 1) + 1) + 1) + 1) + 1) + 1) + 1) + 1) + 1) (59 : Int32).toNatClampNeg (101 : Int32)) fun J482 =>
    if zib (60 : Int32) ((D297 (((((((((((((n + 1) + 1) + 1) + 1) + 1) + 1) + 1) + 1) + 1) + 1) + 1) + 1) + 1)).2) = true then
    zl (uI J482 (((((((((((((n + 1) + 1) + 1) + 1) + 1) + 1) + 1) + 1) + 1) + 1) + 1) + 1) + 1) (60 : Int32).toNatClampNeg (32 : Int32)) fun J485 =>
    if zib (61 : Int32) ((D297 (((((((((((((n + 1) + 1) + 1) + 1) + 1) + 1) + 1) + 1) + 1) + 1) + 1) + 1) + 1)).2) = true then
    zl (uI J485 (((((((((((((n + 1) + 1) + 1) + 1) + 1) + 1) + 1) + 1) + 1) + 1) + 1) + 1) + 1) (61 : Int32).toNatClampNeg (32 : Int32)) fun J488 =>
    if zib (62 : Int32) ((D297 (((((((((((((n + 1) + 1) + 1) + 1) + 1) + 1) + 1) + 1) + 1) + 1) + 1) + 1) + 1)).2) = true then
    zl (uI J488 (((((((((((((n + 1) + 1) + 1) + 1) + 1) + 1) + 1) + 1) + 1) + 1) + 1) + 1) + 1) (62 : Int32).toNatClampNeg (32 : Int32)) fun J491 =>
    if zib (63 : Int32) ((D297 (((((((((((((n + 1) + 1) + 1) + 1) + 1) + 1) + 1) + 1) + 1) + 1) + 1) + 1) + 1)).2) = true then
    zl (uI J491 (((((((((((((n + 1) + 1) + 1) + 1) + 1) + 1) + 1) + 1) + 1) + 1) + 1) + 1) + 1) (63 : Int32).toNatClampNeg (32 : Int32)) fun J494 =>
    if zib (64 : Int32) ((D297 (((((((((((((n + 1) + 1) + 1) + 1) + 1) + 1) + 1) + 1) + 1) + 1) + 1) + 1) + 1)).2) = true then
    zl (uI J494 (((((((((((((n + 1) + 1) + 1) + 1) + 1) + 1) + 1) + 1) + 1) + 1) + 1) + 1) + 1) (64 : Int32).toNatClampNeg (109 : Int32)) fun J497 =>
    if zib (65 : Int32) ((D297 (((((((((((((n + 1) + 1) + 1) + 1) + 1) + 1) + 1) + 1) + 1) + 1) + 1) + 1) + 1)).2) = true then
    zl (uI J497 (((((((((((((n + 1) + 1) + 1) + 1) + 1) + 1) + 1) + 1) + 1) + 1) + 1) + 1) + 1) (65 : Int32).toNatClampNeg (97 : Int32)) fun J500 =>
    if zib (66 : Int32) ((D297 (((((((((((((n + 1) + 1) + 1) + 1) + 1) + 1) + 1) + 1) + 1) + 1) + 1) + 1) + 1)).2) = true then
    zl (uI J500 (((((((((((((n + 1) + 1) + 1) + 1) + 1) + 1) + 1) + 1) + 1) + 1) + 1) + 1) + 1) (66 : Int32).toNatClampNeg (110 : Int32)) fun J503 =>
    if zib (67 : Int32) ((D297 (((((((((((((n + 1) + 1) + 1) + 1) + 1) + 1) + 1) + 1) + 1) + 1) + 1) + 1) + 1)).2) = true then
    zl (uI J503 (((((((((((((n + 1) + 1) + 1) + 1) + 1) + 1) + 1) + 1) + 1) + 1) + 1) + 1) + 1) (67 : Int32).toNatClampNeg (121 : Int32)) fun J506 =>
    if zib (68 : Int32) ((D297 (((((((((((((n + 1) + 1) + 1) + 1) + 1) + 1) + 1) + 1) + 1) + 1) + 1) + 1) + 1)).2) = true then
    zl (uI J506 (((((((((((((n + 1) + 1) + 1) + 1) + 1) + 1) + 1) + 1) + 1) + 1) + 1) + 1) + 1) (68 : Int32).toNatClampNeg (32 : Int32)) fun J509 =>
    if zib (69 : Int32) ((D297 (((((((((((((n + 1) + 1) + 1) + 1) + 1) + 1) + 1) + 1) + 1) + 1) + 1) + 1) + 1)).2) = true then
    zl (uI J509 (((((((((((((n + 1) + 1) + 1) + 1) + 1) + 1) + 1) + 1) + 1) + 1) + 1) + 1) + 1) (69 : Int32).toNatClampNeg (32 : Int32)) fun J512 =>
    if zib (70 : Int32) ((D297 (((((((((((((n + 1) + 1) + 1) + 1) + 1) + 1) + 1) + 1) + 1) + 1) + 1) + 1) + 1)).2) = true then
    zl (uI J512 (((((((((((((n + 1) + 1) + 1) + 1) + 1) + 1) + 1) + 1) + 1) + 1) + 1) + 1) + 1) (70 : Int32).toNatClampNeg (32 : Int32)) fun J515 =>
    if zib (71 : Int32) ((D297 (((((((((((((n + 1) + 1) + 1) + 1) + 1) + 1) + 1) + 1) + 1) + 1) + 1) + 1) + 1)).2) = true then
    zl (uI J515 (((((((((((((n + 1) + 1) + 1) + 1) + 1) + 1) + 1) + 1) + 1) + 1) + 1) + 1) + 1) (71 : Int32).toNatClampNeg (32 : Int32)) fun J518 =>
    if zib (72 : Int32) ((D297 (((((((((((((n + 1) + 1) + 1) + 1) + 1) + 1) + 1) + 1) + 1) + 1) + 1) + 1) + 1)).2) = true then
    zl (uI J518 (((((((((((((n + 1) + 1) + 1) + 1) + 1) + 1) + 1) + 1) + 1) + 1) + 1) + 1) + 1) (72 : Int32).toNatClampNeg (111 : Int32)) fun J521 =>
    if zib (73 : Int32) ((D297 (((((((((((((n + 1) + 1) + 1) + 1) + 1) + 1) + 1) + 1) + 1) + 1) + 1) + 1) + 1)).2) = true then
    zl (uI J521 (((((((((((((n + 1) + 1) + 1) + 1) + 1) + 1) + 1) + 1) + 1) + 1) + 1) + 1) + 1) (73 : Int32).toNatClampNeg (114 : Int32)) fun J524 =>
    if zib (74 : Int32) ((D297 (((((((((((((n + 1) + 1) + 1) + 1) + 1) + 1) + 1) + 1) + 1) + 1) + 1) + 1) + 1)).2) = true then
    zl (uI J524 (((((((((((((n + 1) + 1) + 1) + 1) + 1) + 1) + 1) + 1) + 1) + 1) + 1) + 1) + 1) (74 : Int32).toNatClampNeg (32 : Int32)) fun J527 =>
    if zib (75 : Int32) ((D297 (((((((((((((n + 1) + 1) + 1) + 1) + 1) + 1) + 1) + 1) + 1) + 1) + 1) + 1) + 1)).2) = true then
    zl (uI J527 (((((((((((((n + 1) + 1) + 1) + 1) + 1) + 1) + 1) + 1) + 1) + 1) + 1) + 1) + 1) (75 : Int32).toNatClampNeg (32 : Int32)) fun J530 =>
    if zib (76 : Int32) ((D297 (((((((((((((n + 1) + 1) + 1) + 1) + 1) + 1) + 1) + 1) + 1) + 1) + 1) + 1) + 1)).2) = true then
    zl (uI J530 (((((((((((((n + 1) + 1) + 1) + 1) + 1) + 1) + 1) + 1) + 1) + 1) + 1) + 1) + 1) (76 : Int32).toNatClampNeg (32 : Int32)) fun J533 =>
    if zib (77 : Int32) ((D297 (((((((((((((n + 1) + 1) + 1) + 1) + 1) + 1) + 1) + 1) + 1) + 1) + 1) + 1) + 1)).2) = true then
    zl (uI J533 (((((((((((((n + 1) + 1) + 1) + 1) + 1) + 1) + 1) + 1) + 1) + 1) + 1) + 1) + 1) (77 : Int32).toNatClampNeg (32 : Int32)) fun J536 =>
    if zib (78 : Int32) ((D297 (((((((((((((n + 1) + 1) + 1) + 1) + 1) + 1) + 1) + 1) + 1) + 1) + 1) + 1) + 1)).2) = true then
    zl (uI J536 (((((((((((((n + 1) + 1) + 1) + 1) + 1) + 1) + 1) + 1) + 1) + 1) + 1) + 1) + 1) (78 : Int32).toNatClampNeg (32 : Int32)) fun J539 =>
    if zib (79 : Int32) ((D297 (((((((((((((n + 1) + 1) + 1) + 1) + 1) + 1) + 1) + 1) + 1) + 1) + 1) + 1) + 1)).2) = true then
    zl (uI J539 (((((((((((((n + 1) + 1) + 1) + 1) + 1) + 1) + 1) + 1) + 1) + 1) + 1) + 1) + 1) (79 : Int32).toNatClampNeg (32 : Int32)) fun J542 =>
    if zib (80 : Int32) ((D297 (((((((((((((n + 1) + 1) + 1) + 1) + 1) + 1) + 1) + 1) + 1) + 1) + 1) + 1) + 1)).2) = true then
    zl (uI J542 (((((((((((((n + 1) + 1) + 1) + 1) + 1) + 1) + 1) + 1) + 1) + 1) + 1) + 1) + 1) (80 : Int32).toNatClampNeg (97 : Int32)) fun J545 =>
    if zib (81 : Int32) ((D297 (((((((((((((n + 1) + 1) + 1) + 1) + 1) + 1) + 1) + 1) + 1) + 1) + 1) + 1) + 1)).2) = true then
    zl (uI J545 (((((((((((((n + 1) + 1) + 1) + 1) + 1) + 1) + 1) + 1) + 1) + 1) + 1) + 1) + 1) (81 : Int32).toNatClampNeg (110 : Int32)) fun J548 =>
    if zib (82 : Int32) ((D297 (((((((((((((n + 1) + 1) + 1) + 1) + 1) + 1) + 1) + 1) + 1) + 1) + 1) + 1) + 1)).2) = true then
    zl (uI J548 (((((((((((((n + 1) + 1) + 1) + 1) + 1) + 1) + 1) + 1) + 1) + 1) + 1) + 1) + 1) (82 : Int32).toNatClampNeg (100 : Int32)) fun J551 =>
    if zib (83 : Int32) ((D297 (((((((((((((n + 1) + 1) + 1) + 1) + 1) + 1) + 1) + 1) + 1) + 1) + 1) + 1) + 1)).2) = true then
    zl (uI J551 (((((((((((((n + 1) + 1) + 1) + 1) + 1) + 1) + 1) + 1) + 1) + 1) + 1) + 1) + 1) (83 : Int32).toNatClampNeg (32 : Int32)) fun J554 =>
    if zib (84 : Int32) ((D297 (((((((((((((n + 1) + 1) + 1) + 1) + 1) + 1) + 1) + 1) + 1) + 1) + 1) + 1) + 1)).2) = true then
    zl (uI J554 (((((((((((((n + 1) + 1) + 1) + 1) + 1) + 1) + 1) + 1) + 1) + 1) + 1) + 1) + 1) (84 : Int32).toNatClampNeg (32 : Int32)) fun J557 =>
    if zib (85 : Int32) ((D297 (((((((((((((n + 1) + 1) + 1) + 1) + 1) + 1) + 1) + 1) + 1) + 1) + 1) + 1) + 1)).2) = true then
    zl (uI J557 (((((((((((((n + 1) + 1) + 1) + 1) + 1) + 1) + 1) + 1) + 1) + 1) + 1) + 1) + 1) (85 : Int32).toNatClampNeg (32 : Int32)) fun J560 =>
    if zib (86 : Int32) ((D297 (((((((((((((n + 1) + 1) + 1) + 1) + 1) + 1) + 1) + 1) + 1) + 1) + 1) + 1) + 1)).2) = true then
    zl (uI J560 (((((((((((((n + 1) + 1) + 1) + 1) + 1) + 1) + 1) + 1) + 1) + 1) + 1) + 1) + 1) (86 : Int32).toNatClampNeg (32 : Int32)) fun J563 =>
    if zib (87 : Int32) ((D297 (((((((((((((n + 1) + 1) + 1) + 1) + 1) + 1) + 1) + 1) + 1) + 1) + 1) + 1) + 1)).2) = true then
    zl (uI J563 (((((((((((((n + 1) + 1) + 1) + 1) + 1) + 1) + 1) + 1) + 1) + 1) + 1) + 1) + 1) (87 : Int32).toNatClampNeg (32 : Int32)) fun J566 =>
    if zib (88 : Int32) ((D297 (((((((((((((n + 1) + 1) + 1) + 1) + 1) + 1) + 1) + 1) + 1) + 1) + 1) + 1) + 1)).2) = true then
    zl (uI J566 (((((((((((((n + 1) + 1) + 1) + 1) + 1) + 1) + 1) + 1) + 1) + 1) + 1) + 1) + 1) (88 : Int32).toNatClampNeg (110 : Int32)) fun J569 =>
    if zib (89 : Int32) ((D297 (((((((((((((n + 1) + 1) + 1) + 1) + 1) + 1) + 1) + 1) + 1) + 1) + 1) + 1) + 1)).2) = true then
    zl (uI J569 (((((((((((((n + 1) + 1) + 1) + 1) + 1) + 1) + 1) + 1) + 1) + 1) + 1) + 1) + 1) (89 : Int32).toNatClampNeg (111 : Int32)) fun J572 =>
    if zib (90 : Int32) ((D297 (((((((((((((n + 1) + 1) + 1) + 1) + 1) + 1) + 1) + 1) + 1) + 1) + 1) + 1) + 1)).2) = true then
    zl (uI J572 (((((((((((((n + 1) + 1) + 1) + 1) + 1) + 1) + 1) + 1) + 1) + 1) + 1) + 1) + 1) (90 : Int32).toNatClampNeg (116 : Int32)) fun J575 =>
    if zib (91 : Int32) ((D297 (((((((((((((n + 1) + 1) + 1) + 1) + 1) + 1) + 1) + 1) + 1) + 1) + 1) + 1) + 1)).2) = true then
    zl (uI J575 (((((((((((((n + 1) + 1) + 1) + 1) + 1) + 1) + 1) + 1) + 1) + 1) + 1) + 1) + 1) (91 : Int32).toNatClampNeg (32 : Int32)) fun J578 =>
    if zib (92 : Int32) ((D297 (((((((((((((n + 1) + 1) + 1) + 1) + 1) + 1) + 1) + 1) + 1) + 1) + 1) + 1) + 1)).2) = true then
    zl (uI J578 (((((((((((((n + 1) + 1) + 1) + 1) + 1) + 1) + 1) + 1) + 1) + 1) + 1) + 1) + 1) (92 : Int32).toNatClampNeg (32 : Int32)) fun J581 =>
    if zib (93 : Int32) ((D297 (((((((((((((n + 1) + 1) + 1) + 1) + 1) + 1) + 1) + 1) + 1) + 1) + 1) + 1) + 1)).2) = true then
    zl (uI J581 (((((((((((((n + 1) + 1) + 1) + 1) + 1) + 1) + 1) + 1) + 1) + 1) + 1) + 1) + 1) (93 : Int32).toNatClampNeg (32 : Int32)) fun J584 =>
    if zib (94 : Int32) ((D297 (((((((((((((n + 1) + 1) + 1) + 1) + 1) + 1) + 1) + 1) + 1) + 1) + 1) + 1) + 1)).2) = true then
    zl (uI J584 (((((((((((((n + 1) + 1) + 1) + 1) + 1) + 1) + 1) + 1) + 1) + 1) + 1) + 1) + 1) (94 : Int32).toNatClampNeg (32 : Int32)) fun J587 =>
    if zib (95 : Int32) ((D297 (((((((((((((n + 1) + 1) + 1) + 1) + 1) + 1) + 1) + 1) + 1) + 1) + 1) + 1) + 1)).2) = true then
    zl (uI J587 (((((((((((((n + 1) + 1) + 1) + 1) + 1) + 1) + 1) + 1) + 1) + 1) + 1) + 1) + 1) (95 : Int32).toNatClampNeg (32 : Int32)) fun J590 =>
    if zKdB ((((((((((((((n + 1) + 1) + 1) + 1) + 1) + 1) + 1) + 1) + 1) + 1) + 1) + 1) + 1) + 1) D297 l0 28 = true then
    zl (uR T301 l0 26 (some (((((((((((((n + 1) + 1) + 1) + 1) + 1) + 1) + 1) + 1) + 1) + 1) + 1) + 1) + 1))) fun T593 =>
    zl (uK D297 ((((((((((((((n + 1) + 1) + 1) + 1) + 1) + 1) + 1) + 1) + 1) + 1) + 1) + 1) + 1) + 1) (0, 200)) fun D597 =>
    zl (uA J590 ((((((((((((((n + 1) + 1) + 1) + 1) + 1) + 1) + 1) + 1) + 1) + 1) + 1) + 1) + 1) + 1) (fun _ => 0)) fun J599 =>
    zl (uRA T593 ((((((((((((((n + 1) + 1) + 1) + 1) + 1) + 1) + 1) + 1) + 1) + 1) + 1) + 1) + 1) + 1)) fun T601 =>
    if zKdB (((((((((((((((n + 1) + 1) + 1) + 1) + 1) + 1) + 1) + 1) + 1) + 1) + 1) + 1) + 1) + 1) + 1) D597 l0 28 = true then
    zl (uR T601 l0 27 (some ((((((((((((((n + 1) + 1) + 1) + 1) + 1) + 1) + 1) + 1) + 1) + 1) + 1) + 1) + 1) + 1))) fun T604 =>
    zl (uK D597 (((((((((((((((n + 1) + 1) + 1) + 1) + 1) + 1) + 1) + 1) + 1) + 1) + 1) + 1) + 1) + 1) + 1) (0, 200)) fun D608 =>
    zl (uA J599 (((((((((((((((n + 1) + 1) + 1) + 1) + 1) + 1) + 1) + 1) + 1) + 1) + 1) + 1) + 1) + 1) + 1) (fun _ => 0)) fun J610 =>
    zl (uRA T604 (((((((((((((((n + 1) + 1) + 1) + 1) + 1) + 1) + 1) + 1) + 1) + 1) + 1) + 1) + 1) + 1) + 1)) fun T612 =>
    if zKdB ((((((((((((((((n + 1) + 1) + 1) + 1) + 1) + 1) + 1) + 1) + 1) + 1) + 1) + 1) + 1) + 1) + 1) + 1) D608 l0 28 = true then
    zl (uR T612 l0 31 (some (((((((((((((((n + 1) + 1) + 1) + 1) + 1) + 1) + 1) + 1) + 1) + 1) + 1) + 1) + 1) + 1) + 1))) fun T615 =>
    zl (uK D608 ((((((((((((((((n + 1) + 1) + 1) + 1) + 1) + 1) + 1) + 1) + 1) + 1) + 1) + 1) + 1) + 1) + 1) + 1) (0, 6)) fun D619 =>
    zl (uA J610 ((((((((((((((((n + 1) + 1) + 1) + 1) + 1) + 1) + 1) + 1) + 1) + 1) + 1) + 1) + 1) + 1) + 1) + 1) (fun _ => 0)) fun J621 =>
    zl (uRA T615 ((((((((((((((((n + 1) + 1) + 1) + 1) + 1) + 1) + 1) + 1) + 1) + 1) + 1) + 1) + 1) + 1) + 1) + 1)) fun T623 =>
    if zKdB (((((((((((((((((n + 1) + 1) + 1) + 1) + 1) + 1) + 1) + 1) + 1) + 1) + 1) + 1) + 1) + 1) + 1) + 1) + 1) D619 l0 28 = true then
    zl (uR T623 l0 32 (some ((((((((((((((((n + 1) + 1) + 1) + 1) + 1) + 1) + 1) + 1) + 1) + 1) + 1) + 1) + 1) + 1) + 1) + 1))) fun T626 =>
    zl (uK D619 (((((((((((((((((n + 1) + 1) + 1) + 1) + 1) + 1) + 1) + 1) + 1) + 1) + 1) + 1) + 1) + 1) + 1) + 1) + 1) (0, 5)) fun D630 =>
    zl (uA J621 (((((((((((((((((n + 1) + 1) + 1) + 1) + 1) + 1) + 1) + 1) + 1) + 1) + 1) + 1) + 1) + 1) + 1) + 1) + 1) (fun _ => 0)) fun J632 =>
    zl (uRA T626 (((((((((((((((((n + 1) + 1) + 1) + 1) + 1) + 1) + 1) + 1) + 1) + 1) + 1) + 1) + 1) + 1) + 1) + 1) + 1)) fun T634 =>
    if zKdB ((((((((((((((((((n + 1) + 1) + 1) + 1) + 1) + 1) + 1) + 1) + 1) + 1) + 1) + 1) + 1) + 1) + 1) + 1) + 1) + 1) D630 l0 28 = true then
    zl (uR T634 l0 33 (some (((((((((((((((((n + 1) + 1) + 1) + 1) + 1) + 1) + 1) + 1) + 1) + 1) + 1) + 1) + 1) + 1) + 1) + 1) + 1))) fun T637 =>
    zl (uK D630 ((((((((((((((((((n + 1) + 1) + 1) + 1) + 1) + 1) + 1) + 1) + 1) + 1) + 1) + 1) + 1) + 1) + 1) + 1) + 1) + 1) (0, 5)) fun D641 =>
    zl (uA J632 ((((((((((((((((((n + 1) + 1) + 1) + 1) + 1) + 1) + 1) + 1) + 1) + 1) + 1) + 1) + 1) + 1) + 1) + 1) + 1) + 1) (fun _ => 0)) fun J643 =>
    zl (uRA T637 ((((((((((((((((((n + 1) + 1) + 1) + 1) + 1) + 1) + 1) + 1) + 1) + 1) + 1) + 1) + 1) + 1) + 1) + 1) + 1) + 1)) fun T645 =>
    if zKdB (((((((((((((((((((n + 1) + 1) + 1) + 1) + 1) + 1) + 1) + 1) + 1) + 1) + 1) + 1) + 1) + 1) + 1) + 1) + 1) + 1) + 1) D641 l0 28 = true then
    zl (uR T645 l0 35 (some ((((((((((((((((((n + 1) + 1) + 1) + 1) + 1) + 1) + 1) + 1) + 1) + 1) + 1) + 1) + 1) + 1) + 1) + 1) + 1) + 1))) fun T648 =>
    zl (uK D641 (((((((((((((((((((n + 1) + 1) + 1) + 1) + 1) + 1) + 1) + 1) + 1) + 1) + 1) + 1) + 1) + 1) + 1) + 1) + 1) + 1) + 1) (0, 5)) fun D652 =>
    zl (uA J643 (((((((((((((((((((n + 1) + 1) + 1) + 1) + 1) + 1) + 1) + 1) + 1) + 1) + 1) + 1) + 1) + 1) + 1) + 1) + 1) + 1) + 1) (fun _ => 0)) fun J654 =>
    zl (uRA T648 (((((((((((((((((((n + 1) + 1) + 1) + 1) + 1) + 1) + 1) + 1) + 1) + 1) + 1) + 1) + 1) + 1) + 1) + 1) + 1) + 1) + 1)) fun T656 =>
    if zKdB ((((((((((((((((((((n + 1) + 1) + 1) + 1) + 1) + 1) + 1) + 1) + 1) + 1) + 1) + 1) + 1) + 1) + 1) + 1) + 1) + 1) + 1) + 1) D652 l0 28 = true then
    zl (uR T656 l0 36 (some (((((((((((((((((((n + 1) + 1) + 1) + 1) + 1) + 1) + 1) + 1) + 1) + 1) + 1) + 1) + 1) + 1) + 1) + 1) + 1) + 1) + 1))) fun T659 =>
    zl (uK D652 ((((((((((((((((((((n + 1) + 1) + 1) + 1) + 1) + 1) + 1) + 1) + 1) + 1) + 1) + 1) + 1) + 1) + 1) + 1) + 1) + 1) + 1) + 1) (0, 5)) fun D663 =>
    zl (uA J654 ((((((((((((((((((((n + 1) + 1) + 1) + 1) + 1) + 1) + 1) + 1) + 1) + 1) + 1) + 1) + 1) + 1) + 1) + 1) + 1) + 1) + 1) + 1) (fun _ => 0)) fun J665 =>
    zl (uRA T659 ((((((((((((((((((((n + 1) + 1) + 1) + 1) + 1) + 1) + 1) + 1) + 1) + 1) + 1) + 1) + 1) + 1) + 1) + 1) + 1) + 1) + 1) + 1)) fun T667 =>
    if zKdB (((((((((((((((((((((n + 1) + 1) + 1) + 1) + 1) + 1) + 1) + 1) + 1) + 1) + 1) + 1) + 1) + 1) + 1) + 1) + 1) + 1) + 1) + 1) + 1) D663 l0 28 = true then
    zl (uR T667 l0 37 (some ((((((((((((((((((((n + 1) + 1) + 1) + 1) + 1) + 1) + 1) + 1) + 1) + 1) + 1) + 1) + 1) + 1) + 1) + 1) + 1) + 1) + 1) + 1))) fun T670 =>
    zl (uK D663 (((((((((((((((((((((n + 1) + 1) + 1) + 1) + 1) + 1) + 1) + 1) + 1) + 1) + 1) + 1) + 1) + 1) + 1) + 1) + 1) + 1) + 1) + 1) + 1) (0, 5)) fun D674 =>
    zl (uA J665 (((((((((((((((((((((n + 1) + 1) + 1) + 1) + 1) + 1) + 1) + 1) + 1) + 1) + 1) + 1) + 1) + 1) + 1) + 1) + 1) + 1) + 1) + 1) + 1) (fun _ => 0)) fun J676 =>
    zl (uRA T670 (((((((((((((((((((((n + 1) + 1) + 1) + 1) + 1) + 1) + 1) + 1) + 1) + 1) + 1) + 1) + 1) + 1) + 1) + 1) + 1) + 1) + 1) + 1) + 1)) fun T678 =>
    if zKdB ((((((((((((((((((((((n + 1) + 1) + 1) + 1) + 1) + 1) + 1) + 1) + 1) + 1) + 1) + 1) + 1) + 1) + 1) + 1) + 1) + 1) + 1) + 1) + 1) + 1) D674 l0 28 = true then
    zl (uR T678 l0 38 (some (((((((((((((((((((((n + 1) + 1) + 1) + 1) + 1) + 1) + 1) + 1) + 1) + 1) + 1) + 1) + 1) + 1) + 1) + 1) + 1) + 1) + 1) + 1) + 1))) fun T681 =>
    zl (uK D674 ((((((((((((((((((((((n + 1) + 1) + 1) + 1) + 1) + 1) + 1) + 1) + 1) + 1) + 1) + 1) + 1) + 1) + 1) + 1) + 1) + 1) + 1) + 1) + 1) + 1) (0, 5)) fun D685 =>
    zl (uA J676 ((((((((((((((((((((((n + 1) + 1) + 1) + 1) + 1) + 1) + 1) + 1) + 1) + 1) + 1) + 1) + 1) + 1) + 1) + 1) + 1) + 1) + 1) + 1) + 1) + 1) (fun _ => 0)) fun J687 =>
    zl (uRA T681 ((((((((((((((((((((((n + 1) + 1) + 1) + 1) + 1) + 1) + 1) + 1) + 1) + 1) + 1) + 1) + 1) + 1) + 1) + 1) + 1) + 1) + 1) + 1) + 1) + 1)) fun T689 =>
    if zKdB (((((((((((((((((((((((n + 1) + 1) + 1) + 1) + 1) + 1) + 1) + 1) + 1) + 1) + 1) + 1) + 1) + 1) + 1) + 1) + 1) + 1) + 1) + 1) + 1) + 1) + 1) D685 l0 28 = true then
    zl (uR T689 l0 39 (some ((((((((((((((((((((((n + 1) + 1) + 1) + 1) + 1) + 1) + 1) + 1) + 1) + 1) + 1) + 1) + 1) + 1) + 1) + 1) + 1) + 1) + 1) + 1) + 1) + 1))) fun T692 =>
    zl (uK D685 (((((((((((((((((((((((n + 1) + 1) + 1) + 1) + 1) + 1) + 1) + 1) + 1) + 1) + 1) + 1) + 1) + 1) + 1) + 1) + 1) + 1) + 1) + 1) + 1) + 1) + 1) (0, 5)) fun D696 =>
    zl (uA J687 (((((((((((((((((((((((n + 1) + 1) + 1) + 1) + 1) + 1) + 1) + 1) + 1) + 1) + 1) + 1) + 1) + 1) + 1) + 1) + 1) + 1) + 1) + 1) + 1) + 1) + 1) (fun _ => 0)) fun J698 =>
    zl (uRA T692 (((((((((((((((((((((((n + 1) + 1) + 1) + 1) + 1) + 1) + 1) + 1) + 1) + 1) + 1) + 1) + 1) + 1) + 1) + 1) + 1) + 1) + 1) + 1) + 1) + 1) + 1)) fun T700 =>
    if zKdB ((((((((((((((((((((((((n + 1) + 1) + 1) + 1) + 1) + 1) + 1) + 1) + 1) + 1) + 1) + 1) + 1) + 1) + 1) + 1) + 1) + 1) + 1) + 1) + 1) + 1) + 1) + 1) D696 l0 28 = true then
    zl (uR T700 l0 40 (some (((((((((((((((((((((((n + 1) + 1) + 1) + 1) + 1) + 1) + 1) + 1) + 1) + 1) + 1) + 1) + 1) + 1) + 1) + 1) + 1) + 1) + 1) + 1) + 1) + 1) + 1))) fun T703 =>
    zl (uK D696 ((((((((((((((((((((((((n + 1) + 1) + 1) + 1) + 1) + 1) + 1) + 1) + 1) + 1) + 1) + 1) + 1) + 1) + 1) + 1) + 1) + 1) + 1) + 1) + 1) + 1) + 1) + 1) (0, 5)) fun D707 =>
    zl (uA J698 ((((((((((((((((((((((((n + 1) + 1) + 1) + 1) + 1) + 1) + 1) + 1) + 1) + 1) + 1) + 1) + 1) + 1) + 1) + 1) + 1) + 1) + 1) + 1) + 1) + 1) + 1) + 1) (fun _ => 0)) fun J709 =>
    zl (uRA T703 ((((((((((((((((((((((((n + 1) + 1) + 1) + 1) + 1) + 1) + 1) + 1) + 1) + 1) + 1) + 1) + 1) + 1) + 1) + 1) + 1) + 1) + 1) + 1) + 1) + 1) + 1) + 1)) fun T711 =>
    if zKdB (((((((((((((((((((((((((n + 1) + 1) + 1) + 1) + 1) + 1) + 1) + 1) + 1) + 1) + 1) + 1) + 1) + 1) + 1) + 1) + 1) + 1) + 1) + 1) + 1) + 1) + 1) + 1) + 1) D707 l0 28 = true then
    zl (uR T711 l0 41 (some ((((((((((((((((((((((((n + 1) + 1) + 1) + 1) + 1) + 1) + 1) + 1) + 1) + 1) + 1) + 1) + 1) + 1) + 1) + 1) + 1) + 1) + 1) + 1) + 1) + 1) + 1) + 1))) fun T714 =>
    zl (uK D707 (((((((((((((((((((((((((n + 1) + 1) + 1) + 1) + 1) + 1) + 1) + 1) + 1) + 1) + 1) + 1) + 1) + 1) + 1) + 1) + 1) + 1) + 1) + 1) + 1) + 1) + 1) + 1) + 1) (0, 9)) fun D718 =>
    zl (uA J709 (((((((((((((((((((((((((n + 1) + 1) + 1) + 1) + 1) + 1) + 1) + 1) + 1) + 1) + 1) + 1) + 1) + 1) + 1) + 1) + 1) + 1) + 1) + 1) + 1) + 1) + 1) + 1) + 1) (fun _ => 0)) fun J720 =>
    zl (uRA T714 (((((((((((((((((((((((((n + 1) + 1) + 1) + 1) + 1) + 1) + 1) + 1) + 1) + 1) + 1) + 1) + 1) + 1) + 1) + 1) + 1) + 1) + 1) + 1) + 1) + 1) + 1) + 1) + 1)) fun T722 =>
    if zKdB ((((((((((((((((((((((((((n + 1) + 1) + 1) + 1) + 1) + 1) + 1) + 1) + 1) + 1) + 1) + 1) + 1) + 1) + 1) + 1) + 1) + 1) + 1) + 1) + 1) + 1) + 1) + 1) + 1) + 1) D718 l0 28 = true then
    zl (uR T722 l0 42 (some (((((((((((((((((((((((((n + 1) + 1) + 1) + 1) + 1) + 1) + 1) + 1) + 1) + 1) + 1) + 1) + 1) + 1) + 1) + 1) + 1) + 1) + 1) + 1) + 1) + 1) + 1) + 1) + 1))) fun T725 =>
    zl (uK D718 ((((((((((((((((((((((((((n + 1) + 1) + 1) + 1) + 1) + 1) + 1) + 1) + 1) + 1) + 1) + 1) + 1) + 1) + 1) + 1) + 1) + 1) + 1) + 1) + 1) + 1) + 1) + 1) + 1) + 1) (0, 9)) fun D729 =>
    zl (uA J720 ((((((((((((((((((((((((((n + 1) + 1) + 1) + 1) + 1) + 1) + 1) + 1) + 1) + 1) + 1) + 1) + 1) + 1) + 1) + 1) + 1) + 1) + 1) + 1) + 1) + 1) + 1) + 1) + 1) + 1) (fun _ => 0)) fun J731 =>
    zl (uRA T725 ((((((((((((((((((((((((((n + 1) + 1) + 1) + 1) + 1) + 1) + 1) + 1) + 1) + 1) + 1) + 1) + 1) + 1) + 1) + 1) + 1) + 1) + 1) + 1) + 1) + 1) + 1) + 1) + 1) + 1)) fun T733 =>
    if zKdB (((((((((((((((((((((((((((n + 1) + 1) + 1) + 1) + 1) + 1) + 1) + 1) + 1) + 1) + 1) + 1) + 1) + 1) + 1) + 1) + 1) + 1) + 1) + 1) + 1) + 1) + 1) + 1) + 1) + 1) + 1) D729 l0 28 = true then
    zl (uR T733 l0 43 (some ((((((((((((((((((((((((((n + 1) + 1) + 1) + 1) + 1) + 1) + 1) + 1) + 1) + 1) + 1) + 1) + 1) + 1) + 1) + 1) + 1) + 1) + 1) + 1) + 1) + 1) + 1) + 1) + 1) + 1))) fun T736 =>
    zl (uK D729 (((((((((((((((((((((((((((n + 1) + 1) + 1) + 1) + 1) + 1) + 1) + 1) + 1) + 1) + 1) + 1) + 1) + 1) + 1) + 1) + 1) + 1) + 1) + 1) + 1) + 1) + 1) + 1) + 1) + 1) + 1) (0, 9)) fun D740 =>
    zl (uA J731 (((((((((((((((((((((((((((n + 1) + 1) + 1) + 1) + 1) + 1) + 1) + 1) + 1) + 1) + 1) + 1) + 1) + 1) + 1) + 1) + 1) + 1) + 1) + 1) + 1) + 1) + 1) + 1) + 1) + 1) + 1) (fun _ => 0)) fun J742 =>
    zl (uRA T736 (((((((((((((((((((((((((((n + 1) + 1) + 1) + 1) + 1) + 1) + 1) + 1) + 1) + 1) + 1) + 1) + 1) + 1) + 1) + 1) + 1) + 1) + 1) + 1) + 1) + 1) + 1) + 1) + 1) + 1) + 1)) fun T744 =>
    if zKdB ((((((((((((((((((((((((((((n + 1) + 1) + 1) + 1) + 1) + 1) + 1) + 1) + 1) + 1) + 1) + 1) + 1) + 1) + 1) + 1) + 1) + 1) + 1) + 1) + 1) + 1) + 1) + 1) + 1) + 1) + 1) + 1) D740 l0 28 = true then
    zl (uR T744 l0 44 (some (((((((((((((((((((((((((((n + 1) + 1) + 1) + 1) + 1) + 1) + 1) + 1) + 1) + 1) + 1) + 1) + 1) + 1) + 1) + 1) + 1) + 1) + 1) + 1) + 1) + 1) + 1) + 1) + 1) + 1) + 1))) fun T747 =>
    zl (uK D740 ((((((((((((((((((((((((((((n + 1) + 1) + 1) + 1) + 1) + 1) + 1) + 1) + 1) + 1) + 1) + 1) + 1) + 1) + 1) + 1) + 1) + 1) + 1) + 1) + 1) + 1) + 1) + 1) + 1) + 1) + 1) + 1) (0, 400)) fun D751 =>
    zl (uA J742 ((((((((((((((((((((((((((((n + 1) + 1) + 1) + 1) + 1) + 1) + 1) + 1) + 1) + 1) + 1) + 1) + 1) + 1) + 1) + 1) + 1) + 1) + 1) + 1) + 1) + 1) + 1) + 1) + 1) + 1) + 1) + 1) (fun _ => 0)) fun J753 =>
    zl (uRA T747 ((((((((((((((((((((((((((((n + 1) + 1) + 1) + 1) + 1) + 1) + 1) + 1) + 1) + 1) + 1) + 1) + 1) + 1) + 1) + 1) + 1) + 1) + 1) + 1) + 1) + 1) + 1) + 1) + 1) + 1) + 1) + 1)) fun T755 =>
    if zKdB (((((((((((((((((((((((((((((n + 1) + 1) + 1) + 1) + 1) + 1) + 1) + 1) + 1) + 1) + 1) + 1) + 1) + 1) + 1) + 1) + 1) + 1) + 1) + 1) + 1) + 1) + 1) + 1) + 1) + 1) + 1) + 1) + 1) D751 l0 28 = true then
    zl (uR T755 l0 46 (some ((((((((((((((((((((((((((((n + 1) + 1) + 1) + 1) + 1) + 1) + 1) + 1) + 1) + 1) + 1) + 1) + 1) + 1) + 1) + 1) + 1) + 1) + 1) + 1) + 1) + 1) + 1) + 1) + 1) + 1) + 1) + 1))) fun T758 =>
    zl (uK D751 (((((((((((((((((((((((((((((n + 1) + 1) + 1) + 1) + 1) + 1) + 1) + 1) + 1) + 1) + 1) + 1) + 1) + 1) + 1) + 1) + 1) + 1) + 1) + 1) + 1) + 1) + 1) + 1) + 1) + 1) + 1) + 1) + 1) (0, 5)) fun D762 =>
    zl (uA J753 (((((((((((((((((((((((((((((n + 1) + 1) + 1) + 1) + 1) + 1) + 1) + 1) + 1) + 1) + 1) + 1) + 1) + 1) + 1) + 1) + 1) + 1) + 1) + 1) + 1) + 1) + 1) + 1) + 1) + 1) + 1) + 1) + 1) (fun _ => 0)) fun J764 =>
    zl (uRA T758 (((((((((((((((((((((((((((((n + 1) + 1) + 1) + 1) + 1) + 1) + 1) + 1) + 1) + 1) + 1) + 1) + 1) + 1) + 1) + 1) + 1) + 1) + 1) + 1) + 1) + 1) + 1) + 1) + 1) + 1) + 1) + 1) + 1)) fun T766 =>
    if zKdB ((((((((((((((((((((((((((((((n + 1) + 1) + 1) + 1) + 1) + 1) + 1) + 1) + 1) + 1) + 1) + 1) + 1) + 1) + 1) + 1) + 1) + 1) + 1) + 1) + 1) + 1) + 1) + 1) + 1) + 1) + 1) + 1) + 1) + 1) D762 l0 28 = true then
    zl (uR T766 l0 49 (some (((((((((((((((((((((((((((((n + 1) + 1) + 1) + 1) + 1) + 1) + 1) + 1) + 1) + 1) + 1) + 1) + 1) + 1) + 1) + 1) + 1) + 1) + 1) + 1) + 1) + 1) + 1) + 1) + 1) + 1) + 1) + 1) + 1))) fun T769 =>
    zl (uK D762 ((((((((((((((((((((((((((((((n + 1) + 1) + 1) + 1) + 1) + 1) + 1) + 1) + 1) + 1) + 1) + 1) + 1) + 1) + 1) + 1) + 1) + 1) + 1) + 1) + 1) + 1) + 1) + 1) + 1) + 1) + 1) + 1) + 1) + 1) (0, 5)) fun D773 =>
    zl (uA J764 ((((((((((((((((((((((((((((((n + 1) + 1) + 1) + 1) + 1) + 1) + 1) + 1) + 1) + 1) + 1) + 1) + 1) + 1) + 1) + 1) + 1) + 1) + 1) + 1) + 1) + 1) + 1) + 1) + 1) + 1) + 1) + 1) + 1) + 1) (fun _ => 0)) fun J775 =>
    zl (uRA T769 ((((((((((((((((((((((((((((((n + 1) + 1) + 1) + 1) + 1) + 1) + 1) + 1) + 1) + 1) + 1) + 1) + 1) + 1) + 1) + 1) + 1) + 1) + 1) + 1) + 1) + 1) + 1) + 1) + 1) + 1) + 1) + 1) + 1) + 1)) fun T777 =>
    if zKdB (((((((((((((((((((((((((((((((n + 1) + 1) + 1) + 1) + 1) + 1) + 1) + 1) + 1) + 1) + 1) + 1) + 1) + 1) + 1) + 1) + 1) + 1) + 1) + 1) + 1) + 1) + 1) + 1) + 1) + 1) + 1) + 1) + 1) + 1) + 1) D773 l0 28 = true then
    zl (uR T777 l0 50 (some ((((((((((((((((((((((((((((((n + 1) + 1) + 1) + 1) + 1) + 1) + 1) + 1) + 1) + 1) + 1) + 1) + 1) + 1) + 1) + 1) + 1) + 1) + 1) + 1) + 1) + 1) + 1) + 1) + 1) + 1) + 1) + 1) + 1) + 1))) fun T780 =>
    zl (uK D773 (((((((((((((((((((((((((((((((n + 1) + 1) + 1) + 1) + 1) + 1) + 1) + 1) + 1) + 1) + 1) + 1) + 1) + 1) + 1) + 1) + 1) + 1) + 1) + 1) + 1) + 1) + 1) + 1) + 1) + 1) + 1) + 1) + 1) + 1) + 1) (0, 9)) fun D784 =>
    zl (uA J775 (((((((((((((((((((((((((((((((n + 1) + 1) + 1) + 1) + 1) + 1) + 1) + 1) + 1) + 1) + 1) + 1) + 1) + 1) + 1) + 1) + 1) + 1) + 1) + 1) + 1) + 1) + 1) + 1) + 1) + 1) + 1) + 1) + 1) + 1) + 1) (fun _ => 0)) fun J786 =>
    zl (uRA T780 (((((((((((((((((((((((((((((((n + 1) + 1) + 1) + 1) + 1) + 1) + 1) + 1) + 1) + 1) + 1) + 1) + 1) + 1) + 1) + 1) + 1) + 1) + 1) + 1) + 1) + 1) + 1) + 1) + 1) + 1) + 1) + 1) + 1) + 1) + 1)) fun T788 =>
    if zKdB ((((((((((((((((((((((((((((((((n + 1) + 1) + 1) + 1) + 1) + 1) + 1) + 1) + 1) + 1) + 1) + 1) + 1) + 1) + 1) + 1) + 1) + 1) + 1) + 1) + 1) + 1) + 1) + 1) + 1) + 1) + 1) + 1) + 1) + 1) + 1) + 1) D784 l0 28 = true then
    zl (uR T788 l0 52 (some (((((((((((((((((((((((((((((((n + 1) + 1) + 1) + 1) + 1) + 1) + 1) + 1) + 1) + 1) + 1) + 1) + 1) + 1) + 1) + 1) + 1) + 1) + 1) + 1) + 1) + 1) + 1) + 1) + 1) + 1) + 1) + 1) + 1) + 1) + 1))) fun T791 =>
    f12_initc_L1061 (f12_initc_B1085) zF l0 (0 : Int32) ((((((((((((((((((((((((((((((((n + 1) + 1) + 1) + 1) + 1) + 1) + 1) + 1) + 1) + 1) + 1) + 1) + 1) + 1) + 1) + 1) + 1) + 1) + 1) + 1) + 1) + 1) + 1) + 1) + 1) + 1) + 1) + 1) + 1) + 1) + 1) + 1) D784 J786 T791
    else none
    else none
    else none
    else none
    else none
    else none
    else none
    else none
    else none
    else none
    else none
    else none
    else none
    else none
    else none
    else none
    else none
    else none
    else none
    else none
    else none
    else none
    else none
    else none
    else none
    else none
    else none
    else none
    else none
    else none
    else none
    else none
    else none
    else none
    else none
    else none
    else none
    else none
    else none
    else none
    else none
    else none
    else none
    else none
    else none
    else none
    else none
    else none
    else none
    else none
    else none
    else none
    else none
    else none
    else none
    else none
    else none
    else none
    else none
    else none
    else none
    else none
    else none
    else none
    else none
    else none
    else none
    else none
    else none
    else none
    else none
    else none
    else none
    else none
    else none
    else none
    else none
    else none
    else none
    else none
    else none
    else none
    else none
    else none
    else none
    else none
    else none
    else none
    else none
    else none
    else none
    else none
    else none
    else none
    else none
    else none
    else none
    else none
    else none
    else none
    else none
    else none
    else none
    else none
    else none
    else none
    else none
    else none
    else none
    else none
    else none
    else none
    else none
    else none
    else none
    else none
    else none
    else none
    else none
    else none
    else none
    else none
    else none
    else none
    else none
    else none
    else none
    else none
    else none
    else none
    else none
    else none
    else none
    else none
    else none
    else none
    else none
    else none
    else none
    else none
    else none
    else none
    else none
    else none
    else none
    else none
    else none
    else none
    else none
    else none
    else none
    else none
    else none
    else none
    else none
    else none
    else none
    else none
    else none
    else none
    else none
    else none
    else none
    else none
    else none
    else none
    else none
    else none
    else none
    else none
    else none
    else none
    else none
    else none

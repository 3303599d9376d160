/-! the law's text and build: laid by program out of the bytecode -/

def fL_text_L2 (n : Nat) (kd : zMK) (R : zMR) (sl : Nat) (sf : Nat → Int32)   : Nat → Nat → Int32 → zMI → Option (zMI)
  | 0, _, _, _ => none
  | q + 1, l1, l2, I =>
    if zKdB n kd l1 29 = true then
    zb (fJ0_length_8abf5D n kd I R l1) fun p2 =>
    if p2 ≤ l2 then
    some (I)
    else
    zb (fJ0_charAt_5068eD n kd I R l1 l2) fun p5 =>
    zb (f11_feed (1 : Int32) p5 (0 : Int32) (0 : Int32) (0 : Int32) (0 : Int32) I) fun p7 =>
    fL_text_L2 n kd R sl sf q l1 (l2 + (1 : Int32)) p7.2
    else none
def fL_text (n : Nat) (kd : zMK) (R : zMR) (sl : Nat) (sf : Nat → Int32)  (l1 : Nat) (I : zMI) : Option (zMI) :=
    fL_text_L2 n kd R sl sf zF l1 (0 : Int32) I
def fL_build_L10 (sl : Nat) (sf : Nat → Int32) (k46 : Nat → zMK → zMI → zMR → Option (Nat × (Nat × zMK) × zMI × zMR)) : Nat → Int32 → Nat → zMK → zMI → zMR → Option (Nat × (Nat × zMK) × zMI × zMR)
  | 0, _, _, _, _, _ => none
  | q + 1, l2, n, kd, I, R =>
    if zShB n kd = true then
    if (9 : Int32) ≤ l2 then
    k46 n kd I R
    else
    zb (fL_high sl sf l2) fun p3 =>
    zb (f11_set n kd (0 : Int32) l2 p3 I) fun p5 =>
    zb (fL_stick sl sf l2) fun p7 =>
    zb (f11_set n kd (1 : Int32) l2 p7 p5.2) fun p9 =>
    fL_build_L10 sl sf k46 q (l2 + (1 : Int32)) n kd p9.2 R
    else none
def fL_build_L59 (sl : Nat) (sf : Nat → Int32) (k93 : Nat → zMK → zMI → zMR → Option (Nat × (Nat × zMK) × zMI × zMR)) : Nat → Int32 → Nat → zMK → zMI → zMR → Option (Nat × (Nat × zMK) × zMI × zMR)
  | 0, _, _, _, _, _ => none
  | q + 1, l2, n, kd, I, R =>
    if zShB n kd = true then
    zb (fL_many sl sf) fun p12 =>
    if p12 ≤ l2 then
    k93 n kd I R
    else
    zb (fL_kind sl sf l2) fun p15 =>
    zb (fL_more sl sf l2) fun p17 =>
    zb (fL_from sl sf l2) fun p19 =>
    zb (f11_walker p15 p17 p19 n kd I R) fun p21 =>
    if zShB p21.2.1.1 p21.2.1.2 = true then
    fL_build_L59 sl sf k93 q (l2 + (1 : Int32)) p21.2.1.1 p21.2.1.2 p21.2.2.1 p21.2.2.2
    else none
    else none
def fL_build_B93 (sl : Nat) (sf : Nat → Int32)   (n : Nat) (kd : zMK) (I : zMI) (R : zMR) : Option (Nat × (Nat × zMK) × zMI × zMR) :=
    if zShB n kd = true then
    zb (fL_plain sl sf) fun p25 =>
    if p25 = (0 : Int32) then
    zl (uK kd n (28, 0)) fun D30 =>
    zl (uA I n (fun _ => 0)) fun J32 =>
    zl (uRA R n) fun T34 =>
    if zShB (n + 1) D30 = true then
    zb (fJ4_init_da8c8j n (n + 1) D30 J32 T34) fun p37 =>
    if zShB p37.1.1 p37.1.2 = true then
    if zKdB p37.1.1 p37.1.2 n 28 = true then
    zb (fJ4_append_15ec4j n 0 p37.1.1 p37.1.2 p37.2.1 p37.2.2) fun p41 =>
    if zShB p41.2.1.1 p41.2.1.2 = true then
    zb (fL_at sl sf (0 : Int32)) fun p44 =>
    if zKdB p41.2.1.1 p41.2.1.2 p41.1 28 = true then
    zb (fJ4_append_bf812j p41.1 ((p44 >>> ((6 : Int32) &&& 31)) &&& (1 : Int32)) p41.2.1.1 p41.2.1.2 p41.2.2.1 p41.2.2.2) fun p47 =>
    if zShB p47.2.1.1 p47.2.1.2 = true then
    if zKdB p47.2.1.1 p47.2.1.2 p47.1 28 = true then
    zb (fJ4_append_15ec4j p47.1 1 p47.2.1.1 p47.2.1.2 p47.2.2.1 p47.2.2.2) fun p51 =>
    if zShB p51.2.1.1 p51.2.1.2 = true then
    zb (fL_at sl sf (0 : Int32)) fun p54 =>
    if zKdB p51.2.1.1 p51.2.1.2 p51.1 28 = true then
    zb (fJ4_append_bf812j p51.1 ((p54 >>> ((7 : Int32) &&& 31)) &&& (3 : Int32)) p51.2.1.1 p51.2.1.2 p51.2.2.1 p51.2.2.2) fun p57 =>
    if zShB p57.2.1.1 p57.2.1.2 = true then
    if zKdB p57.2.1.1 p57.2.1.2 p57.1 28 = true then
    zb (fJ4_append_15ec4j p57.1 2 p57.2.1.1 p57.2.1.2 p57.2.2.1 p57.2.2.2) fun p61 =>
    if zShB p61.2.1.1 p61.2.1.2 = true then
    zb (fL_at sl sf (0 : Int32)) fun p64 =>
    if zKdB p61.2.1.1 p61.2.1.2 p61.1 28 = true then
    zb (fJ4_append_bf812j p61.1 ((p64 >>> ((9 : Int32) &&& 31)) &&& (3 : Int32)) p61.2.1.1 p61.2.1.2 p61.2.2.1 p61.2.2.2) fun p67 =>
    if zShB p67.2.1.1 p67.2.1.2 = true then
    if zKdB p67.2.1.1 p67.2.1.2 p67.1 28 = true then
    zb (fJ4_append_15ec4j p67.1 3 p67.2.1.1 p67.2.1.2 p67.2.2.1 p67.2.2.2) fun p71 =>
    if zShB p71.2.1.1 p71.2.1.2 = true then
    if zKdB p71.2.1.1 p71.2.1.2 p71.1 28 = true then
    zb (fJ4_toString_0e30dj p71.1 p71.2.1.1 p71.2.1.2 p71.2.2.1 p71.2.2.2) fun p75 =>
    if zShB p75.2.1.1 p75.2.1.2 = true then
    zb (fL_text p75.2.1.1 p75.2.1.2 p75.2.2.2 sl sf p75.1 p75.2.2.1) fun p78 =>
    zb (f11_text p75.2.1.1 p75.2.1.2 p78 p75.2.2.2) fun p80 =>
    if zShB p80.2.1.1 p80.2.1.2 = true then
    zb (f11_force p80.1 p80.2.2.1) fun p83 =>
    some (32, (p80.2.1.1, p80.2.1.2), p83.2, p80.2.2.2)
    else none
    else none
    else none
    else none
    else none
    else none
    else none
    else none
    else none
    else none
    else none
    else none
    else none
    else none
    else none
    else none
    else none
    else none
    else none
    else
    some (32, (n, kd), I, R)
    else none
def fL_build_B46 (sl : Nat) (sf : Nat → Int32)   (n : Nat) (kd : zMK) (I : zMI) (R : zMR) : Option (Nat × (Nat × zMK) × zMI × zMR) :=
    if zShB n kd = true then
    zb (fL_want sl sf) fun p86 =>
    zb (f11_set n kd (2 : Int32) (0 : Int32) p86 I) fun p88 =>
    fL_build_L59 sl sf (fL_build_B93 sl sf) 5 (0 : Int32) n kd p88.2 R
    else none
def fL_build (sl : Nat) (sf : Nat → Int32)  (n : Nat) (kd : zMK) (I : zMI) (R : zMR) : Option (Nat × (Nat × zMK) × zMI × zMR) :=
    fL_build_L10 sl sf (fL_build_B46 sl sf) zF (0 : Int32) n kd I R

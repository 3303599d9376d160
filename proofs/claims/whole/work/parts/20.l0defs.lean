/-! the law's loop: laid by program out of the bytecode -/
def fL_law_B1487 (sl : Nat) (sf : Nat → Int32) (k18 : Int32 → Nat → zMK → zMI → zMR → Option (Int32 × (Nat × zMK) × zMI × zMR)) (l3 : Int32) (n : Nat) (kd : zMK) (I : zMI) (R : zMR) : Option (Int32 × (Nat × zMK) × zMI × zMR) :=
    if zShB n kd = true then
    k18 (l3 + (7 : Int32)) n kd I R
    else none
def fL_law_L18 (sl : Nat) (sf : Nat → Int32)  : Nat → Int32 → Nat → zMK → zMI → zMR → Option (Int32 × (Nat × zMK) × zMI × zMR)
  | 0, _, _, _, _, _ => none
  | q + 1, l3, n, kd, I, R =>
    if zShB n kd = true then
    if ((Int32.ofNat sl) - (7 : Int32)) < l3 then
    some ((1 : Int32), (n, kd), I, R)
    else
    if zib l3 sl = true then
    if ((sf l3.toNatClampNeg) &&& (63 : Int32)) = (0 : Int32) then
    if zib (l3 + (1 : Int32)) sl = true then
    zb (f11_count I (sf (l3 + (1 : Int32)).toNatClampNeg)) fun p7 =>
    zb (f12_count I (sf (l3 + (1 : Int32)).toNatClampNeg)) fun p9 =>
    if p7 = p9 then
    fL_law_B1487 sl sf (fL_law_L18 sl sf q) l3 n kd I R
    else
    some ((0 : Int32), (n, kd), I, R)
    else none
    else
    if ((sf l3.toNatClampNeg) &&& (63 : Int32)) = (1 : Int32) then
    if zib (l3 + (1 : Int32)) sl = true then
    if zib (l3 + (2 : Int32)) sl = true then
    if zib (l3 + (3 : Int32)) sl = true then
    zb (f11_set n kd (sf (l3 + (1 : Int32)).toNatClampNeg) (sf (l3 + (2 : Int32)).toNatClampNeg) (sf (l3 + (3 : Int32)).toNatClampNeg) I) fun p16 =>
    zb (f12_set (sf (l3 + (1 : Int32)).toNatClampNeg) (sf (l3 + (2 : Int32)).toNatClampNeg) (sf (l3 + (3 : Int32)).toNatClampNeg) p16.2) fun p18 =>
    if p16.1 = p18.1 then
    fL_law_B1487 sl sf (fL_law_L18 sl sf q) l3 n kd p18.2 R
    else
    some ((0 : Int32), (n, kd), p18.2, R)
    else none
    else none
    else none
    else
    if ((sf l3.toNatClampNeg) &&& (63 : Int32)) = (2 : Int32) then
    if zib (l3 + (1 : Int32)) sl = true then
    if zib (l3 + (2 : Int32)) sl = true then
    zb (f11_heap I (sf (l3 + (1 : Int32)).toNatClampNeg) (sf (l3 + (2 : Int32)).toNatClampNeg)) fun p24 =>
    zb (f12_heap I (sf (l3 + (1 : Int32)).toNatClampNeg) (sf (l3 + (2 : Int32)).toNatClampNeg)) fun p26 =>
    if p24 = p26 then
    fL_law_B1487 sl sf (fL_law_L18 sl sf q) l3 n kd I R
    else
    some ((0 : Int32), (n, kd), I, R)
    else none
    else none
    else
    if ((sf l3.toNatClampNeg) &&& (63 : Int32)) = (3 : Int32) then
    if zib (l3 + (1 : Int32)) sl = true then
    if zib (l3 + (2 : Int32)) sl = true then
    if zib (l3 + (3 : Int32)) sl = true then
    if zib (l3 + (4 : Int32)) sl = true then
    if zib (l3 + (5 : Int32)) sl = true then
    if zib (l3 + (6 : Int32)) sl = true then
    zb (f11_feed (sf (l3 + (1 : Int32)).toNatClampNeg) (sf (l3 + (2 : Int32)).toNatClampNeg) (sf (l3 + (3 : Int32)).toNatClampNeg) (sf (l3 + (4 : Int32)).toNatClampNeg) (sf (l3 + (5 : Int32)).toNatClampNeg) (sf (l3 + (6 : Int32)).toNatClampNeg) I) fun p36 =>
    zb (f12_feed (sf (l3 + (1 : Int32)).toNatClampNeg) (sf (l3 + (2 : Int32)).toNatClampNeg) (sf (l3 + (3 : Int32)).toNatClampNeg) (sf (l3 + (4 : Int32)).toNatClampNeg) (sf (l3 + (5 : Int32)).toNatClampNeg) (sf (l3 + (6 : Int32)).toNatClampNeg) p36.2) fun p38 =>
    if p36.1 = p38.1 then
    fL_law_B1487 sl sf (fL_law_L18 sl sf q) l3 n kd p38.2 R
    else
    some ((0 : Int32), (n, kd), p38.2, R)
    else none
    else none
    else none
    else none
    else none
    else none
    else
    if ((sf l3.toNatClampNeg) &&& (63 : Int32)) = (4 : Int32) then
    zb (f11_text n kd I R) fun p42 =>
    if zShB p42.2.1.1 p42.2.1.2 = true then
    zb (f12_text p42.2.2.1) fun p45 =>
    if p42.1 = p45.1 then
    fL_law_B1487 sl sf (fL_law_L18 sl sf q) l3 p42.2.1.1 p42.2.1.2 p45.2 p42.2.2.2
    else
    some ((0 : Int32), (p42.2.1.1, p42.2.1.2), p45.2, p42.2.2.2)
    else none
    else
    if ((sf l3.toNatClampNeg) &&& (63 : Int32)) = (5 : Int32) then
    if zib (l3 + (1 : Int32)) sl = true then
    zb (f11_force (sf (l3 + (1 : Int32)).toNatClampNeg) I) fun p50 =>
    zb (f12_force (sf (l3 + (1 : Int32)).toNatClampNeg) p50.2) fun p52 =>
    if p50.1 = p52.1 then
    fL_law_B1487 sl sf (fL_law_L18 sl sf q) l3 n kd p52.2 R
    else
    some ((0 : Int32), (n, kd), p52.2, R)
    else none
    else
    if ((sf l3.toNatClampNeg) &&& (63 : Int32)) = (6 : Int32) then
    if zib (l3 + (1 : Int32)) sl = true then
    if zib (l3 + (2 : Int32)) sl = true then
    if zib (l3 + (3 : Int32)) sl = true then
    zb (f11_asks n kd R (sf (l3 + (1 : Int32)).toNatClampNeg) (sf (l3 + (2 : Int32)).toNatClampNeg) (sf (l3 + (3 : Int32)).toNatClampNeg) I) fun p59 =>
    zb (f12_asks (sf (l3 + (1 : Int32)).toNatClampNeg) (sf (l3 + (2 : Int32)).toNatClampNeg) (sf (l3 + (3 : Int32)).toNatClampNeg) p59.2) fun p61 =>
    if p59.1 = p61.1 then
    fL_law_B1487 sl sf (fL_law_L18 sl sf q) l3 n kd p61.2 R
    else
    some ((0 : Int32), (n, kd), p61.2, R)
    else none
    else none
    else none
    else
    if ((sf l3.toNatClampNeg) &&& (63 : Int32)) = (7 : Int32) then
    if zib (l3 + (1 : Int32)) sl = true then
    if zib (l3 + (2 : Int32)) sl = true then
    if zib (l3 + (3 : Int32)) sl = true then
    zb (f11_walker (sf (l3 + (1 : Int32)).toNatClampNeg) (sf (l3 + (2 : Int32)).toNatClampNeg) (sf (l3 + (3 : Int32)).toNatClampNeg) n kd I R) fun p68 =>
    if zShB p68.2.1.1 p68.2.1.2 = true then
    zb (f12_walker (sf (l3 + (1 : Int32)).toNatClampNeg) (sf (l3 + (2 : Int32)).toNatClampNeg) (sf (l3 + (3 : Int32)).toNatClampNeg) p68.2.2.1) fun p71 =>
    if p68.1 = p71.1 then
    fL_law_B1487 sl sf (fL_law_L18 sl sf q) l3 p68.2.1.1 p68.2.1.2 p71.2 p68.2.2.2
    else
    some ((0 : Int32), (p68.2.1.1, p68.2.1.2), p71.2, p68.2.2.2)
    else none
    else none
    else none
    else none
    else
    if ((sf l3.toNatClampNeg) &&& (63 : Int32)) = (8 : Int32) then
    if zib (l3 + (1 : Int32)) sl = true then
    if zib (l3 + (2 : Int32)) sl = true then
    zb (f11_begin n kd R (sf (l3 + (1 : Int32)).toNatClampNeg) (sf (l3 + (2 : Int32)).toNatClampNeg) I) fun p77 =>
    zb (f12_begin (sf (l3 + (1 : Int32)).toNatClampNeg) (sf (l3 + (2 : Int32)).toNatClampNeg) p77.2) fun p79 =>
    if p77.1 = p79.1 then
    fL_law_B1487 sl sf (fL_law_L18 sl sf q) l3 n kd p79.2 R
    else
    some ((0 : Int32), (n, kd), p79.2, R)
    else none
    else none
    else
    if ((sf l3.toNatClampNeg) &&& (63 : Int32)) = (9 : Int32) then
    if zib (l3 + (1 : Int32)) sl = true then
    if zib (l3 + (2 : Int32)) sl = true then
    zb (f11_told n kd I R (sf (l3 + (1 : Int32)).toNatClampNeg) (sf (l3 + (2 : Int32)).toNatClampNeg)) fun p85 =>
    zb (f12_told I (sf (l3 + (1 : Int32)).toNatClampNeg) (sf (l3 + (2 : Int32)).toNatClampNeg)) fun p87 =>
    if p85 = p87 then
    fL_law_B1487 sl sf (fL_law_L18 sl sf q) l3 n kd I R
    else
    some ((0 : Int32), (n, kd), I, R)
    else none
    else none
    else
    if ((sf l3.toNatClampNeg) &&& (63 : Int32)) = (10 : Int32) then
    if zib (l3 + (1 : Int32)) sl = true then
    if zib (l3 + (2 : Int32)) sl = true then
    zb (f11_run n kd (sf (l3 + (1 : Int32)).toNatClampNeg) (sf (l3 + (2 : Int32)).toNatClampNeg) I R) fun p93 =>
    zb (f12_run (sf (l3 + (1 : Int32)).toNatClampNeg) (sf (l3 + (2 : Int32)).toNatClampNeg) p93.2.1) fun p95 =>
    if p93.1 = p95.1 then
    fL_law_B1487 sl sf (fL_law_L18 sl sf q) l3 n kd p95.2 p93.2.2
    else
    some ((0 : Int32), (n, kd), p95.2, p93.2.2)
    else none
    else none
    else
    if ((sf l3.toNatClampNeg) &&& (63 : Int32)) = (11 : Int32) then
    if zib (l3 + (1 : Int32)) sl = true then
    if zib (l3 + (2 : Int32)) sl = true then
    if zib (l3 + (3 : Int32)) sl = true then
    zb (f11_one n kd (sf (l3 + (1 : Int32)).toNatClampNeg) (sf (l3 + (2 : Int32)).toNatClampNeg) (sf (l3 + (3 : Int32)).toNatClampNeg) I R) fun p102 =>
    zb (f12_one (sf (l3 + (1 : Int32)).toNatClampNeg) (sf (l3 + (2 : Int32)).toNatClampNeg) (sf (l3 + (3 : Int32)).toNatClampNeg) p102.2.1) fun p104 =>
    if p102.1 = p104.1 then
    fL_law_B1487 sl sf (fL_law_L18 sl sf q) l3 n kd p104.2 p102.2.2
    else
    some ((0 : Int32), (n, kd), p104.2, p102.2.2)
    else none
    else none
    else none
    else
    if ((sf l3.toNatClampNeg) &&& (63 : Int32)) = (12 : Int32) then
    if zib (l3 + (1 : Int32)) sl = true then
    if zib (l3 + (2 : Int32)) sl = true then
    if zib (l3 + (3 : Int32)) sl = true then
    zb (f11_height n kd (sf (l3 + (1 : Int32)).toNatClampNeg) (sf (l3 + (2 : Int32)).toNatClampNeg) (sf (l3 + (3 : Int32)).toNatClampNeg) I R) fun p111 =>
    zb (f12_height (sf (l3 + (1 : Int32)).toNatClampNeg) (sf (l3 + (2 : Int32)).toNatClampNeg) (sf (l3 + (3 : Int32)).toNatClampNeg) p111.2.1) fun p113 =>
    if p111.1 = p113.1 then
    fL_law_B1487 sl sf (fL_law_L18 sl sf q) l3 n kd p113.2 p111.2.2
    else
    some ((0 : Int32), (n, kd), p113.2, p111.2.2)
    else none
    else none
    else none
    else
    if ((sf l3.toNatClampNeg) &&& (63 : Int32)) = (13 : Int32) then
    if zib (l3 + (1 : Int32)) sl = true then
    zb (f11_go n kd (sf (l3 + (1 : Int32)).toNatClampNeg) I R) fun p118 =>
    zb (f12_go (sf (l3 + (1 : Int32)).toNatClampNeg) p118.2.1) fun p120 =>
    if p118.1 = p120.1 then
    fL_law_B1487 sl sf (fL_law_L18 sl sf q) l3 n kd p120.2 p118.2.2
    else
    some ((0 : Int32), (n, kd), p120.2, p118.2.2)
    else none
    else
    if ((sf l3.toNatClampNeg) &&& (63 : Int32)) = (14 : Int32) then
    if zib (l3 + (1 : Int32)) sl = true then
    zb (f11_off n kd (sf (l3 + (1 : Int32)).toNatClampNeg) I R) fun p125 =>
    zb (f12_off (sf (l3 + (1 : Int32)).toNatClampNeg) p125.2.1) fun p127 =>
    if p125.1 = p127.1 then
    fL_law_B1487 sl sf (fL_law_L18 sl sf q) l3 n kd p127.2 p125.2.2
    else
    some ((0 : Int32), (n, kd), p127.2, p125.2.2)
    else none
    else
    if ((sf l3.toNatClampNeg) &&& (63 : Int32)) = (15 : Int32) then
    if zib (l3 + (1 : Int32)) sl = true then
    if zib (l3 + (2 : Int32)) sl = true then
    zb (f11_find n kd (sf (l3 + (1 : Int32)).toNatClampNeg) (sf (l3 + (2 : Int32)).toNatClampNeg) I R) fun p133 =>
    zb (f12_find (sf (l3 + (1 : Int32)).toNatClampNeg) (sf (l3 + (2 : Int32)).toNatClampNeg) p133.2.1) fun p135 =>
    if p133.1 = p135.1 then
    fL_law_B1487 sl sf (fL_law_L18 sl sf q) l3 n kd p135.2 p133.2.2
    else
    some ((0 : Int32), (n, kd), p135.2, p133.2.2)
    else none
    else none
    else
    if ((sf l3.toNatClampNeg) &&& (63 : Int32)) = (16 : Int32) then
    if zib (l3 + (1 : Int32)) sl = true then
    zb (f11_best n kd (sf (l3 + (1 : Int32)).toNatClampNeg) I R) fun p140 =>
    zb (f12_best (sf (l3 + (1 : Int32)).toNatClampNeg) p140.2.1) fun p142 =>
    if p140.1 = p142.1 then
    fL_law_B1487 sl sf (fL_law_L18 sl sf q) l3 n kd p142.2 p140.2.2
    else
    some ((0 : Int32), (n, kd), p142.2, p140.2.2)
    else none
    else
    if ((sf l3.toNatClampNeg) &&& (63 : Int32)) = (17 : Int32) then
    if zib (l3 + (1 : Int32)) sl = true then
    if zib (l3 + (2 : Int32)) sl = true then
    zb (f11_start n kd (sf (l3 + (1 : Int32)).toNatClampNeg) (sf (l3 + (2 : Int32)).toNatClampNeg) I R) fun p148 =>
    zb (f12_start (sf (l3 + (1 : Int32)).toNatClampNeg) (sf (l3 + (2 : Int32)).toNatClampNeg) p148.2.1) fun p150 =>
    if p148.1 = p150.1 then
    fL_law_B1487 sl sf (fL_law_L18 sl sf q) l3 n kd p150.2 p148.2.2
    else
    some ((0 : Int32), (n, kd), p150.2, p148.2.2)
    else none
    else none
    else
    if ((sf l3.toNatClampNeg) &&& (63 : Int32)) = (18 : Int32) then
    if zib (l3 + (1 : Int32)) sl = true then
    zb (f11_sit n kd (sf (l3 + (1 : Int32)).toNatClampNeg) I R) fun p155 =>
    zb (f12_sit (sf (l3 + (1 : Int32)).toNatClampNeg) p155.2.1) fun p157 =>
    if p155.1 = p157.1 then
    fL_law_B1487 sl sf (fL_law_L18 sl sf q) l3 n kd p157.2 p155.2.2
    else
    some ((0 : Int32), (n, kd), p157.2, p155.2.2)
    else none
    else
    if ((sf l3.toNatClampNeg) &&& (63 : Int32)) = (19 : Int32) then
    if zib (l3 + (1 : Int32)) sl = true then
    zb (f11_worth n kd (sf (l3 + (1 : Int32)).toNatClampNeg) I R) fun p162 =>
    zb (f12_worth (sf (l3 + (1 : Int32)).toNatClampNeg) p162.2.1) fun p164 =>
    if p162.1 = p164.1 then
    fL_law_B1487 sl sf (fL_law_L18 sl sf q) l3 n kd p164.2 p162.2.2
    else
    some ((0 : Int32), (n, kd), p164.2, p162.2.2)
    else none
    else
    if ((sf l3.toNatClampNeg) &&& (63 : Int32)) = (20 : Int32) then
    if zib (l3 + (1 : Int32)) sl = true then
    zb (f11_more n kd (sf (l3 + (1 : Int32)).toNatClampNeg) I R) fun p169 =>
    zb (f12_more (sf (l3 + (1 : Int32)).toNatClampNeg) p169.2.1) fun p171 =>
    if p169.1 = p171.1 then
    fL_law_B1487 sl sf (fL_law_L18 sl sf q) l3 n kd p171.2 p169.2.2
    else
    some ((0 : Int32), (n, kd), p171.2, p169.2.2)
    else none
    else
    if ((sf l3.toNatClampNeg) &&& (63 : Int32)) = (21 : Int32) then
    if zib (l3 + (1 : Int32)) sl = true then
    zb (f11_stretch n kd (sf (l3 + (1 : Int32)).toNatClampNeg) I R) fun p176 =>
    zb (f12_stretch (sf (l3 + (1 : Int32)).toNatClampNeg) p176.2.1) fun p178 =>
    if p176.1 = p178.1 then
    fL_law_B1487 sl sf (fL_law_L18 sl sf q) l3 n kd p178.2 p176.2.2
    else
    some ((0 : Int32), (n, kd), p178.2, p176.2.2)
    else none
    else
    if ((sf l3.toNatClampNeg) &&& (63 : Int32)) = (22 : Int32) then
    zb (f11_slowest n kd I R) fun p182 =>
    zb (f12_slowest p182.2.1) fun p184 =>
    if p182.1 = p184.1 then
    fL_law_B1487 sl sf (fL_law_L18 sl sf q) l3 n kd p184.2 p182.2.2
    else
    some ((0 : Int32), (n, kd), p184.2, p182.2.2)
    else
    if ((sf l3.toNatClampNeg) &&& (63 : Int32)) = (23 : Int32) then
    if zib (l3 + (1 : Int32)) sl = true then
    if zib (l3 + (2 : Int32)) sl = true then
    zb (f11_judge n kd (sf (l3 + (1 : Int32)).toNatClampNeg) (sf (l3 + (2 : Int32)).toNatClampNeg) I R) fun p190 =>
    zb (f12_judge (sf (l3 + (1 : Int32)).toNatClampNeg) (sf (l3 + (2 : Int32)).toNatClampNeg) p190.2.1) fun p192 =>
    if p190.1 = p192.1 then
    fL_law_B1487 sl sf (fL_law_L18 sl sf q) l3 n kd p192.2 p190.2.2
    else
    some ((0 : Int32), (n, kd), p192.2, p190.2.2)
    else none
    else none
    else
    if ((sf l3.toNatClampNeg) &&& (63 : Int32)) = (24 : Int32) then
    if zib (l3 + (1 : Int32)) sl = true then
    if zib (l3 + (2 : Int32)) sl = true then
    zb (f11_when n kd (sf (l3 + (1 : Int32)).toNatClampNeg) (sf (l3 + (2 : Int32)).toNatClampNeg) I R) fun p198 =>
    zb (f12_when (sf (l3 + (1 : Int32)).toNatClampNeg) (sf (l3 + (2 : Int32)).toNatClampNeg) p198.2.1) fun p200 =>
    if p198.1 = p200.1 then
    fL_law_B1487 sl sf (fL_law_L18 sl sf q) l3 n kd p200.2 p198.2.2
    else
    some ((0 : Int32), (n, kd), p200.2, p198.2.2)
    else none
    else none
    else
    if ((sf l3.toNatClampNeg) &&& (63 : Int32)) = (25 : Int32) then
    if zib (l3 + (1 : Int32)) sl = true then
    if zib (l3 + (2 : Int32)) sl = true then
    if zib (l3 + (3 : Int32)) sl = true then
    zb (f11_sticks n kd (sf (l3 + (1 : Int32)).toNatClampNeg) (sf (l3 + (2 : Int32)).toNatClampNeg) (sf (l3 + (3 : Int32)).toNatClampNeg) I R) fun p207 =>
    zb (f12_sticks (sf (l3 + (1 : Int32)).toNatClampNeg) (sf (l3 + (2 : Int32)).toNatClampNeg) (sf (l3 + (3 : Int32)).toNatClampNeg) p207.2.1) fun p209 =>
    if p207.1 = p209.1 then
    fL_law_B1487 sl sf (fL_law_L18 sl sf q) l3 n kd p209.2 p207.2.2
    else
    some ((0 : Int32), (n, kd), p209.2, p207.2.2)
    else none
    else none
    else none
    else
    if ((sf l3.toNatClampNeg) &&& (63 : Int32)) = (26 : Int32) then
    if zib (l3 + (1 : Int32)) sl = true then
    if zib (l3 + (2 : Int32)) sl = true then
    if zib (l3 + (3 : Int32)) sl = true then
    zb (f11_kinds (sf (l3 + (1 : Int32)).toNatClampNeg) (sf (l3 + (2 : Int32)).toNatClampNeg) (sf (l3 + (3 : Int32)).toNatClampNeg) n kd I R) fun p216 =>
    if zShB p216.2.1.1 p216.2.1.2 = true then
    zb (f12_kinds (sf (l3 + (1 : Int32)).toNatClampNeg) (sf (l3 + (2 : Int32)).toNatClampNeg) (sf (l3 + (3 : Int32)).toNatClampNeg) p216.2.2.1) fun p219 =>
    if p216.1 = p219.1 then
    fL_law_B1487 sl sf (fL_law_L18 sl sf q) l3 p216.2.1.1 p216.2.1.2 p219.2 p216.2.2.2
    else
    some ((0 : Int32), (p216.2.1.1, p216.2.1.2), p219.2, p216.2.2.2)
    else none
    else none
    else none
    else none
    else
    if ((sf l3.toNatClampNeg) &&& (63 : Int32)) = (27 : Int32) then
    if zib (l3 + (1 : Int32)) sl = true then
    if zib (l3 + (2 : Int32)) sl = true then
    zb (f11_laws n kd (sf (l3 + (1 : Int32)).toNatClampNeg) (sf (l3 + (2 : Int32)).toNatClampNeg) I R) fun p225 =>
    zb (f12_laws (sf (l3 + (1 : Int32)).toNatClampNeg) (sf (l3 + (2 : Int32)).toNatClampNeg) p225.2.1) fun p227 =>
    if p225.1 = p227.1 then
    fL_law_B1487 sl sf (fL_law_L18 sl sf q) l3 n kd p227.2 p225.2.2
    else
    some ((0 : Int32), (n, kd), p227.2, p225.2.2)
    else none
    else none
    else
    if ((sf l3.toNatClampNeg) &&& (63 : Int32)) = (28 : Int32) then
    if zib (l3 + (1 : Int32)) sl = true then
    if zib (l3 + (2 : Int32)) sl = true then
    zb (f11_film n kd (sf (l3 + (1 : Int32)).toNatClampNeg) (sf (l3 + (2 : Int32)).toNatClampNeg) I R) fun p233 =>
    zb (f12_film (sf (l3 + (1 : Int32)).toNatClampNeg) (sf (l3 + (2 : Int32)).toNatClampNeg) p233.2.1) fun p235 =>
    if p233.1 = p235.1 then
    fL_law_B1487 sl sf (fL_law_L18 sl sf q) l3 n kd p235.2 p233.2.2
    else
    some ((0 : Int32), (n, kd), p235.2, p233.2.2)
    else none
    else none
    else
    if ((sf l3.toNatClampNeg) &&& (63 : Int32)) = (29 : Int32) then
    if zib (l3 + (1 : Int32)) sl = true then
    if zib (l3 + (2 : Int32)) sl = true then
    zb (f11_drawn n kd (sf (l3 + (1 : Int32)).toNatClampNeg) (sf (l3 + (2 : Int32)).toNatClampNeg) I R) fun p241 =>
    zb (f12_drawn (sf (l3 + (1 : Int32)).toNatClampNeg) (sf (l3 + (2 : Int32)).toNatClampNeg) p241.2.1) fun p243 =>
    if p241.1 = p243.1 then
    fL_law_B1487 sl sf (fL_law_L18 sl sf q) l3 n kd p243.2 p241.2.2
    else
    some ((0 : Int32), (n, kd), p243.2, p241.2.2)
    else none
    else none
    else
    if ((sf l3.toNatClampNeg) &&& (63 : Int32)) = (30 : Int32) then
    if zib (l3 + (1 : Int32)) sl = true then
    if zib (l3 + (2 : Int32)) sl = true then
    if zib (l3 + (3 : Int32)) sl = true then
    if zib (l3 + (4 : Int32)) sl = true then
    zb (f11_odds n kd (sf (l3 + (1 : Int32)).toNatClampNeg) (sf (l3 + (2 : Int32)).toNatClampNeg) (sf (l3 + (3 : Int32)).toNatClampNeg) (sf (l3 + (4 : Int32)).toNatClampNeg) I R) fun p251 =>
    zb (f12_odds (sf (l3 + (1 : Int32)).toNatClampNeg) (sf (l3 + (2 : Int32)).toNatClampNeg) (sf (l3 + (3 : Int32)).toNatClampNeg) (sf (l3 + (4 : Int32)).toNatClampNeg) p251.2.1) fun p253 =>
    if (lg_cmp p251.1 p253.1) = (0 : Int32) then
    fL_law_B1487 sl sf (fL_law_L18 sl sf q) l3 n kd p253.2 p251.2.2
    else
    some ((0 : Int32), (n, kd), p253.2, p251.2.2)
    else none
    else none
    else none
    else none
    else
    if ((sf l3.toNatClampNeg) &&& (63 : Int32)) = (31 : Int32) then
    zb (f11_image n kd R I) fun p257 =>
    zb (f12_image p257.2) fun p259 =>
    if p257.1 = p259.1 then
    fL_law_B1487 sl sf (fL_law_L18 sl sf q) l3 n kd p259.2 R
    else
    some ((0 : Int32), (n, kd), p259.2, R)
    else
    if ((sf l3.toNatClampNeg) &&& (63 : Int32)) = (32 : Int32) then
    zb (f11_back n kd I R) fun p263 =>
    zb (f12_back p263.2.1) fun p265 =>
    if p263.1 = p265.1 then
    fL_law_B1487 sl sf (fL_law_L18 sl sf q) l3 n kd p265.2 p263.2.2
    else
    some ((0 : Int32), (n, kd), p265.2, p263.2.2)
    else
    if ((sf l3.toNatClampNeg) &&& (63 : Int32)) = (33 : Int32) then
    if zib (l3 + (1 : Int32)) sl = true then
    if zib (l3 + (2 : Int32)) sl = true then
    if zib (l3 + (3 : Int32)) sl = true then
    zb (f11_sheet n kd (sf (l3 + (1 : Int32)).toNatClampNeg) (sf (l3 + (2 : Int32)).toNatClampNeg) (sf (l3 + (3 : Int32)).toNatClampNeg) I) fun p272 =>
    zb (f12_sheet (sf (l3 + (1 : Int32)).toNatClampNeg) (sf (l3 + (2 : Int32)).toNatClampNeg) (sf (l3 + (3 : Int32)).toNatClampNeg) p272.2) fun p274 =>
    if p272.1 = p274.1 then
    fL_law_B1487 sl sf (fL_law_L18 sl sf q) l3 n kd p274.2 R
    else
    some ((0 : Int32), (n, kd), p274.2, R)
    else none
    else none
    else none
    else
    if ((sf l3.toNatClampNeg) &&& (63 : Int32)) = (34 : Int32) then
    if zib (l3 + (1 : Int32)) sl = true then
    if zib (l3 + (2 : Int32)) sl = true then
    if zib (l3 + (3 : Int32)) sl = true then
    zb (f11_cell (sf (l3 + (1 : Int32)).toNatClampNeg) (sf (l3 + (2 : Int32)).toNatClampNeg) (sf (l3 + (3 : Int32)).toNatClampNeg) I) fun p281 =>
    zb (f12_cell (sf (l3 + (1 : Int32)).toNatClampNeg) (sf (l3 + (2 : Int32)).toNatClampNeg) (sf (l3 + (3 : Int32)).toNatClampNeg) p281.2) fun p283 =>
    if p281.1 = p283.1 then
    fL_law_B1487 sl sf (fL_law_L18 sl sf q) l3 n kd p283.2 R
    else
    some ((0 : Int32), (n, kd), p283.2, R)
    else none
    else none
    else none
    else
    if ((sf l3.toNatClampNeg) &&& (63 : Int32)) = (35 : Int32) then
    if zib (l3 + (1 : Int32)) sl = true then
    if zib (l3 + (2 : Int32)) sl = true then
    if zib (l3 + (3 : Int32)) sl = true then
    if zib (l3 + (4 : Int32)) sl = true then
    if zib (l3 + (5 : Int32)) sl = true then
    zb (f11_copy (sf (l3 + (1 : Int32)).toNatClampNeg) (sf (l3 + (2 : Int32)).toNatClampNeg) (sf (l3 + (3 : Int32)).toNatClampNeg) (sf (l3 + (4 : Int32)).toNatClampNeg) (sf (l3 + (5 : Int32)).toNatClampNeg) I) fun p292 =>
    zb (f12_copy (sf (l3 + (1 : Int32)).toNatClampNeg) (sf (l3 + (2 : Int32)).toNatClampNeg) (sf (l3 + (3 : Int32)).toNatClampNeg) (sf (l3 + (4 : Int32)).toNatClampNeg) (sf (l3 + (5 : Int32)).toNatClampNeg) p292.2) fun p294 =>
    if p292.1 = p294.1 then
    fL_law_B1487 sl sf (fL_law_L18 sl sf q) l3 n kd p294.2 R
    else
    some ((0 : Int32), (n, kd), p294.2, R)
    else none
    else none
    else none
    else none
    else none
    else
    if ((sf l3.toNatClampNeg) &&& (63 : Int32)) = (36 : Int32) then
    if zib (l3 + (1 : Int32)) sl = true then
    if zib (l3 + (2 : Int32)) sl = true then
    if zib (l3 + (3 : Int32)) sl = true then
    if zib (l3 + (4 : Int32)) sl = true then
    zb (f11_walkersBy (sf (l3 + (1 : Int32)).toNatClampNeg) (sf (l3 + (2 : Int32)).toNatClampNeg) (sf (l3 + (3 : Int32)).toNatClampNeg) (sf (l3 + (4 : Int32)).toNatClampNeg) n kd I R) fun p302 =>
    if zShB p302.2.1.1 p302.2.1.2 = true then
    zb (f12_walkersBy (sf (l3 + (1 : Int32)).toNatClampNeg) (sf (l3 + (2 : Int32)).toNatClampNeg) (sf (l3 + (3 : Int32)).toNatClampNeg) (sf (l3 + (4 : Int32)).toNatClampNeg) p302.2.2.1) fun p305 =>
    if p302.1 = p305.1 then
    fL_law_B1487 sl sf (fL_law_L18 sl sf q) l3 p302.2.1.1 p302.2.1.2 p305.2 p302.2.2.2
    else
    some ((0 : Int32), (p302.2.1.1, p302.2.1.2), p305.2, p302.2.2.2)
    else none
    else none
    else none
    else none
    else none
    else
    if ((sf l3.toNatClampNeg) &&& (63 : Int32)) = (37 : Int32) then
    if zib (l3 + (1 : Int32)) sl = true then
    if zib (l3 + (2 : Int32)) sl = true then
    zb (f11_taken n kd I R (sf (l3 + (1 : Int32)).toNatClampNeg) (sf (l3 + (2 : Int32)).toNatClampNeg)) fun p311 =>
    zb (f12_taken I (sf (l3 + (1 : Int32)).toNatClampNeg) (sf (l3 + (2 : Int32)).toNatClampNeg)) fun p313 =>
    if p311 = p313 then
    fL_law_B1487 sl sf (fL_law_L18 sl sf q) l3 n kd I R
    else
    some ((0 : Int32), (n, kd), I, R)
    else none
    else none
    else
    fL_law_B1487 sl sf (fL_law_L18 sl sf q) l3 n kd I R
    else none
    else none
def fL_law (sl : Nat) (sf : Nat → Int32)  (n : Nat) (kd : zMK) (I : zMI) (R : zMR) : Option (Int32 × (Nat × zMK) × zMI × zMR) :=
    fL_law_L18 sl sf 513 (0 : Int32) n kd I R

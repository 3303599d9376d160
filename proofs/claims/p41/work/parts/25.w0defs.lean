/-! the law behind its head: laid by program out of the bytecode -/
abbrev zGh : Type := Nat → zMK → zMI → zMR → zMI
/-- a choice of ghosts -/
def zGhe (gh : zGh) : Prop := ∀ n kd I R, zGE I (gh n kd I R)
theorem zGE_to {I J J2 : zMI} (h : zGE I J) (e : J = J2) : zGE I J2 := e ▸ h
theorem zcb_103 : (Int8.ofInt 103).toInt32 = (103 : Int32) := by decide
theorem zcs_601 : (Int16.ofInt 601).toInt32 = (601 : Int32) := by decide
def fL_law_B222 (n : Nat) (kd : zMK) (sl : Nat) (sf : Nat → Int32) (ah : Nat) (hF : zML) (gh : zGh)  (k56 : Int32 → Int32 → Int32 → Int64 → Int32 → zMI → zMR → Option (Int32)) (l3 : Int32) (l4 : Int32) (l6 : Int64) (l8 : Int32) (s0 : Int32) (s1 : Int32) (s2 : Int32) (I : zMI) (R : zMR) : Option (Int32) :=
    if zib ((50 : Int32) + l8) 130 = true then
    if zib ((45 : Int32) + l8) 130 = true then
    zb (f11_told n kd I R l8 (0 : Int32)) fun p3 =>
    zb (fL_kind sl sf l8) fun p5 =>
    if p3 = p5 then
    zb (f11_told n kd I R l8 (1 : Int32)) fun p8 =>
    zb (fL_more sl sf l8) fun p10 =>
    if p8 = p10 then
    zb (f11_told n kd I R l8 (2 : Int32)) fun p13 =>
    zb (fL_from sl sf l8) fun p15 =>
    if p13 = p15 then
    zb (f11_told n kd I R l8 (3 : Int32)) fun p18 =>
    zb (fL_kind sl sf l8) fun p20 =>
    zl (if p20 = (3 : Int32) then
    ((0 : Int32))
    else
    ((1 : Int32))) fun x23 =>
    if p18 = x23 then
    k56 l3 l4 (s0 + (s1 * s2)) (l6 + (((9 : Int64) * (hF ((50 : Int32) + l8).toNatClampNeg)) + (hF ((45 : Int32) + l8).toNatClampNeg))) (l8 + (1 : Int32)) I R
    else
    some ((0 : Int32))
    else
    some ((0 : Int32))
    else
    some ((0 : Int32))
    else
    some ((0 : Int32))
    else none
    else none
def fL_law_L56 (n : Nat) (kd : zMK) (sl : Nat) (sf : Nat → Int32) (ah : Nat) (hF : zML) (gh : zGh)  (k331 : Int32 → Int32 → Int32 → Int64 → zMI → zMR → Option (Int32)) : Nat → Int32 → Int32 → Int32 → Int64 → Int32 → zMI → zMR → Option (Int32)
  | 0, _, _, _, _, _, _, _ => none
  | q + 1, l3, l4, l5, l6, l8, I, R =>
    if l3 ≤ l8 then
    k331 l3 l4 l5 l6 I R
    else
    zb (f11_one n kd l8 l4 (0 : Int32) I R) fun p28 =>
    zl (gh n kd p28.2.1 p28.2.2) fun J30 =>
    if zib ((30 : Int32) + l8) 130 = true then
    if (lg_cmp p28.1.toInt64 (hF ((30 : Int32) + l8).toNatClampNeg)) = (0 : Int32) then
    zb (f11_one n kd l8 l4 (1 : Int32) J30 p28.2.2) fun p34 =>
    zl (gh n kd p34.2.1 p34.2.2) fun J36 =>
    if zib ((35 : Int32) + l8) 130 = true then
    if (lg_cmp p34.1.toInt64 (hF ((35 : Int32) + l8).toNatClampNeg)) = (0 : Int32) then
    zb (f11_one n kd l8 l4 (2 : Int32) J36 p34.2.2) fun p40 =>
    zl (gh n kd p40.2.1 p40.2.2) fun J42 =>
    if zib ((50 : Int32) + l8) 130 = true then
    if (lg_cmp p40.1.toInt64 (hF ((50 : Int32) + l8).toNatClampNeg)) = (0 : Int32) then
    zb (f11_one n kd l8 l4 (3 : Int32) J42 p40.2.2) fun p46 =>
    zl (gh n kd p46.2.1 p46.2.2) fun J48 =>
    if zib ((55 : Int32) + l8) 130 = true then
    if (lg_cmp p46.1.toInt64 (hF ((55 : Int32) + l8).toNatClampNeg)) = (0 : Int32) then
    zb (f11_one n kd l8 l4 (4 : Int32) J48 p46.2.2) fun p52 =>
    zl (gh n kd p52.2.1 p52.2.2) fun J54 =>
    if zib ((45 : Int32) + l8) 130 = true then
    if (lg_cmp p52.1.toInt64 (hF ((45 : Int32) + l8).toNatClampNeg)) = (0 : Int32) then
    zb (fL_plain sl sf) fun p58 =>
    if p58 = (0 : Int32) then
    zb (fL_more sl sf l8) fun p61 =>
    zb (fL_at sl sf (0 : Int32)) fun p63 =>
    zb (fL_held sl sf ((hF ((50 : Int32) + l8).toNatClampNeg) + ((p61 * ((p63 >>> ((9 : Int32) &&& 31)) &&& (3 : Int32))).toInt64)) (0 : Int32) (99 : Int32)) fun p65 =>
    fL_law_B222 n kd sl sf ah hF gh (fL_law_L56 n kd sl sf ah hF gh k331 q) l3 l4 l6 l8 l5 ((hF ((55 : Int32) + l8).toNatClampNeg).toInt32) p65 J54 p52.2.2
    else
    fL_law_B222 n kd sl sf ah hF gh (fL_law_L56 n kd sl sf ah hF gh k331 q) l3 l4 l6 l8 l5 ((hF ((55 : Int32) + l8).toNatClampNeg).toInt32) (1 : Int32) J54 p52.2.2
    else
    some ((0 : Int32))
    else none
    else
    some ((0 : Int32))
    else none
    else
    some ((0 : Int32))
    else none
    else
    some ((0 : Int32))
    else none
    else
    some ((0 : Int32))
    else none
def fL_law_L415 (n : Nat) (kd : zMK) (sl : Nat) (sf : Nat → Int32) (ah : Nat) (hF : zML) (gh : zGh)  (k524 : Int32 → Int32 → Int64 → Int64 → zMI → zMR → Option (Int32)) : Nat → Int32 → Int32 → Int64 → Int64 → Int32 → zMI → zMR → Option (Int32)
  | 0, _, _, _, _, _, _, _ => none
  | q + 1, l3, l4, l6, l8, l10, I, R =>
    if (9 : Int32) ≤ l10 then
    k524 l3 l4 l6 l8 I R
    else
    zb (f11_height n kd l10 l4 (0 : Int32) I R) fun p68 =>
    zl (gh n kd p68.2.1 p68.2.2) fun J70 =>
    if zib ((70 : Int32) + l10) 130 = true then
    if (lg_cmp p68.1.toInt64 (hF ((70 : Int32) + l10).toNatClampNeg)) = (0 : Int32) then
    zb (f11_height n kd l10 l4 (1 : Int32) J70 p68.2.2) fun p74 =>
    zl (gh n kd p74.2.1 p74.2.2) fun J76 =>
    if zib ((90 : Int32) + l10) 130 = true then
    if (lg_cmp p74.1.toInt64 (hF ((90 : Int32) + l10).toNatClampNeg)) = (0 : Int32) then
    zb (f11_heap J76 l10 (0 : Int32)) fun p80 =>
    zb (fL_high sl sf l10) fun p82 =>
    if p80 = p82 then
    zb (f11_heap J76 l10 (1 : Int32)) fun p85 =>
    zb (fL_stick sl sf l10) fun p87 =>
    if p85 = p87 then
    zb (fL_high sl sf l10) fun p90 =>
    fL_law_L415 n kd sl sf ah hF gh k524 q l3 l4 l6 (l8 + (p90.toInt64 - (hF ((70 : Int32) + l10).toNatClampNeg))) (l10 + (1 : Int32)) J76 p74.2.2
    else
    some ((0 : Int32))
    else
    some ((0 : Int32))
    else
    some ((0 : Int32))
    else none
    else
    some ((0 : Int32))
    else none
def fL_law_L610 (n : Nat) (kd : zMK) (sl : Nat) (sf : Nat → Int32) (ah : Nat) (hF : zML) (gh : zGh)  (k642 : Int32 → zMI → zMR → Option (Int32)) : Nat → Int32 → Int32 → Int32 → zMI → zMR → Option (Int32)
  | 0, _, _, _, _, _ => none
  | q + 1, l3, l4, l10, I, R =>
    if l3 ≤ l10 then
    k642 l4 I R
    else
    zb (f11_start n kd l10 (1 : Int32) I R) fun p93 =>
    zl (gh n kd p93.2.1 p93.2.2) fun J95 =>
    zb (f11_run n kd (600 : Int32) (0 : Int32) J95 p93.2.2) fun p97 =>
    zl (gh n kd p97.2.1 p97.2.2) fun J99 =>
    if p97.1 ≤ p93.1 then
    fL_law_L610 n kd sl sf ah hF gh k642 q l3 l4 (l10 + (1 : Int32)) J99 p97.2.2
    else
    some ((0 : Int32))
def fL_law_L687 (n : Nat) (kd : zMK) (sl : Nat) (sf : Nat → Int32) (ah : Nat) (hF : zML) (gh : zGh)  (k721 : zMI → zMR → Option (Int32)) : Nat → Int32 → zMI → zMR → Option (Int32)
  | 0, _, _, _ => none
  | q + 1, l10, I, R =>
    if (9 : Int32) ≤ l10 then
    k721 I R
    else
    zb (f11_heap I l10 (0 : Int32)) fun p103 =>
    if zib ((70 : Int32) + l10) 130 = true then
    if (lg_cmp p103.toInt64 (hF ((70 : Int32) + l10).toNatClampNeg)) = (0 : Int32) then
    fL_law_L687 n kd sl sf ah hF gh k721 q (l10 + (1 : Int32)) I R
    else
    some ((0 : Int32))
    else none
def fL_law_B721 (n : Nat) (kd : zMK) (sl : Nat) (sf : Nat → Int32) (ah : Nat) (hF : zML) (gh : zGh)    (I : zMI) (R : zMR) : Option (Int32) :=
    zb (f11_run n kd (601 : Int32) (0 : Int32) I R) fun p107 =>
    zl (gh n kd p107.2.1 p107.2.2) fun J109 =>
    if p107.1 = (-2 : Int32) then
    zb (f11_run n kd (0 : Int32) (5 : Int32) J109 p107.2.2) fun p112 =>
    zl (gh n kd p112.2.1 p112.2.2) fun J114 =>
    if p112.1 = (-2 : Int32) then
    zb (f11_run n kd (0 : Int32) (0 : Int32) J114 p112.2.2) fun p117 =>
    zl (gh n kd p117.2.1 p117.2.2) fun J119 =>
    if p117.1 = (0 : Int32) then
    zb (f11_one n kd (5 : Int32) (0 : Int32) (0 : Int32) J119 p117.2.2) fun p122 =>
    zl (gh n kd p122.2.1 p122.2.2) fun J124 =>
    if p122.1 = (-5 : Int32) then
    zb (f11_one n kd (0 : Int32) (601 : Int32) (0 : Int32) J124 p122.2.2) fun p127 =>
    zl (gh n kd p127.2.1 p127.2.2) fun J129 =>
    if p127.1 = (-7 : Int32) then
    zb (f11_one n kd (0 : Int32) (0 : Int32) (5 : Int32) J129 p127.2.2) fun p132 =>
    zl (gh n kd p132.2.1 p132.2.2) fun J134 =>
    if p132.1 = (-7 : Int32) then
    zb (f11_height n kd (9 : Int32) (0 : Int32) (0 : Int32) J134 p132.2.2) fun p137 =>
    zl (gh n kd p137.2.1 p137.2.2) fun J139 =>
    if p137.1 = (-6 : Int32) then
    zb (f11_height n kd (0 : Int32) (601 : Int32) (0 : Int32) J139 p137.2.2) fun p142 =>
    zl (gh n kd p142.2.1 p142.2.2) fun J144 =>
    if p142.1 = (-7 : Int32) then
    zb (f11_height n kd (0 : Int32) (0 : Int32) (2 : Int32) J144 p142.2.2) fun p147 =>
    zl (gh n kd p147.2.1 p147.2.2) fun J149 =>
    if p147.1 = (-7 : Int32) then
    zb (f11_go n kd (601 : Int32) J149 p147.2.2) fun p152 =>
    zl (gh n kd p152.2.1 p152.2.2) fun J154 =>
    if p152.1 = (-2 : Int32) then
    zb (f11_go n kd (-1 : Int32) J154 p152.2.2) fun p157 =>
    zl (gh n kd p157.2.1 p157.2.2) fun J159 =>
    if p157.1 = (-2 : Int32) then
    zb (f11_told n kd J159 p157.2.2 (5 : Int32) (0 : Int32)) fun p162 =>
    if p162 = (-5 : Int32) then
    zb (f11_told n kd J159 p157.2.2 (0 : Int32) (4 : Int32)) fun p165 =>
    if p165 = (-7 : Int32) then
    zb (f11_heap J159 (9 : Int32) (0 : Int32)) fun p168 =>
    if p168 = (-6 : Int32) then
    zb (f11_heap J159 (0 : Int32) (2 : Int32)) fun p171 =>
    if p171 = (-7 : Int32) then
    some ((1 : Int32))
    else
    some ((0 : Int32))
    else
    some ((0 : Int32))
    else
    some ((0 : Int32))
    else
    some ((0 : Int32))
    else
    some ((0 : Int32))
    else
    some ((0 : Int32))
    else
    some ((0 : Int32))
    else
    some ((0 : Int32))
    else
    some ((0 : Int32))
    else
    some ((0 : Int32))
    else
    some ((0 : Int32))
    else
    some ((0 : Int32))
    else
    some ((0 : Int32))
    else
    some ((0 : Int32))
    else
    some ((0 : Int32))
def fL_law_B642 (n : Nat) (kd : zMK) (sl : Nat) (sf : Nat → Int32) (ah : Nat) (hF : zML) (gh : zGh)   (l4 : Int32) (I : zMI) (R : zMR) : Option (Int32) :=
    zb (f11_film n kd (1 : Int32) l4 I R) fun p175 =>
    zl (gh n kd p175.2.1 p175.2.2) fun J177 =>
    if p175.1 = (9 : Int32) then
    zb (f11_judge n kd (1 : Int32) l4 J177 p175.2.2) fun p180 =>
    zl (gh n kd p180.2.1 p180.2.2) fun J182 =>
    if p180.1 = (-1 : Int32) then
    zb (f11_go n kd l4 J182 p180.2.2) fun p185 =>
    zl (gh n kd p185.2.1 p185.2.2) fun J187 =>
    if zib (101 : Int32) 130 = true then
    if (lg_cmp p185.1.toInt64 (hF (101 : Int32).toNatClampNeg)) = (0 : Int32) then
    fL_law_L687 n kd sl sf ah hF gh (fL_law_B721 n kd sl sf ah hF gh) zF (0 : Int32) J187 p185.2.2
    else
    some ((0 : Int32))
    else none
    else
    some ((0 : Int32))
    else
    some ((0 : Int32))
def fL_law_B607 (n : Nat) (kd : zMK) (sl : Nat) (sf : Nat → Int32) (ah : Nat) (hF : zML) (gh : zGh)   (l3 : Int32) (l4 : Int32) (I : zMI) (R : zMR) : Option (Int32) :=
    fL_law_L610 n kd sl sf ah hF gh (fL_law_B642 n kd sl sf ah hF gh) zF l3 l4 (0 : Int32) I R
def fL_law_B586 (n : Nat) (kd : zMK) (sl : Nat) (sf : Nat → Int32) (ah : Nat) (hF : zML) (gh : zGh)   (l3 : Int32) (l4 : Int32) (I : zMI) (R : zMR) : Option (Int32) :=
    zb (f11_best n kd (0 : Int32) I R) fun p191 =>
    zl (gh n kd p191.2.1 p191.2.2) fun J193 =>
    if (0 : Int32) ≤ p191.1 then
    fL_law_B607 n kd sl sf ah hF gh l3 l4 J193 p191.2.2
    else
    zb (f11_run n kd (600 : Int32) (4 : Int32) J193 p191.2.2) fun p196 =>
    zl (gh n kd p196.2.1 p196.2.2) fun J198 =>
    if p196.1 < (0 : Int32) then
    fL_law_B607 n kd sl sf ah hF gh l3 l4 J198 p196.2.2
    else
    some ((0 : Int32))
def fL_law_B543 (n : Nat) (kd : zMK) (sl : Nat) (sf : Nat → Int32) (ah : Nat) (hF : zML) (gh : zGh)   (l3 : Int32) (l4 : Int32) (I : zMI) (R : zMR) : Option (Int32) :=
    zb (f11_best n kd (1 : Int32) I R) fun p201 =>
    zl (gh n kd p201.2.1 p201.2.2) fun J203 =>
    if p201.1 < (0 : Int32) then
    some ((0 : Int32))
    else
    zb (f11_best n kd (0 : Int32) J203 p201.2.2) fun p206 =>
    zl (gh n kd p206.2.1 p206.2.2) fun J208 =>
    if p206.1 < (0 : Int32) then
    fL_law_B586 n kd sl sf ah hF gh l3 l4 J208 p206.2.2
    else
    zb (f11_run n kd (600 : Int32) (4 : Int32) J208 p206.2.2) fun p211 =>
    zl (gh n kd p211.2.1 p211.2.2) fun J213 =>
    if p211.1 < (0 : Int32) then
    fL_law_B586 n kd sl sf ah hF gh l3 l4 J213 p211.2.2
    else
    zb (f11_best n kd (0 : Int32) J213 p211.2.2) fun p216 =>
    zl (gh n kd p216.2.1 p216.2.2) fun J218 =>
    zb (f11_run n kd (600 : Int32) (4 : Int32) J218 p216.2.2) fun p220 =>
    zl (gh n kd p220.2.1 p220.2.2) fun J222 =>
    if p220.1 < p216.1 then
    some ((0 : Int32))
    else
    fL_law_B586 n kd sl sf ah hF gh l3 l4 J222 p220.2.2
def fL_law_B524 (n : Nat) (kd : zMK) (sl : Nat) (sf : Nat → Int32) (ah : Nat) (hF : zML) (gh : zGh)   (l3 : Int32) (l4 : Int32) (l6 : Int64) (l8 : Int64) (I : zMI) (R : zMR) : Option (Int32) :=
    if zib (100 : Int32) 130 = true then
    if (lg_cmp (hF (100 : Int32).toNatClampNeg) (0 : Int64)) = (0 : Int32) then
    if (0 : Int32) ≤ (lg_cmp l8 l6) then
    fL_law_B543 n kd sl sf ah hF gh l3 l4 I R
    else
    some ((0 : Int32))
    else
    fL_law_B543 n kd sl sf ah hF gh l3 l4 I R
    else none
def fL_law_B331 (n : Nat) (kd : zMK) (sl : Nat) (sf : Nat → Int32) (ah : Nat) (hF : zML) (gh : zGh)   (l3 : Int32) (l4 : Int32) (l5 : Int32) (l6 : Int64) (I : zMI) (R : zMR) : Option (Int32) :=
    zb (f11_run n kd l4 (0 : Int32) I R) fun p228 =>
    zl (gh n kd p228.2.1 p228.2.2) fun J230 =>
    if zib (101 : Int32) 130 = true then
    if (lg_cmp p228.1.toInt64 (hF (101 : Int32).toNatClampNeg)) = (0 : Int32) then
    zb (f11_run n kd l4 (1 : Int32) J230 p228.2.2) fun p234 =>
    zl (gh n kd p234.2.1 p234.2.2) fun J236 =>
    if zib (102 : Int32) 130 = true then
    if (lg_cmp p234.1.toInt64 (hF (102 : Int32).toNatClampNeg)) = (0 : Int32) then
    zb (f11_run n kd l4 (2 : Int32) J236 p234.2.2) fun p240 =>
    zl (gh n kd p240.2.1 p240.2.2) fun J242 =>
    if zib (103 : Int32) 130 = true then
    if (lg_cmp p240.1.toInt64 (hF (103 : Int32).toNatClampNeg)) = (0 : Int32) then
    zb (f11_run n kd l4 (3 : Int32) J242 p240.2.2) fun p246 =>
    zl (gh n kd p246.2.1 p246.2.2) fun J248 =>
    if p246.1 = l5 then
    zb (f11_run n kd l4 (4 : Int32) J248 p246.2.2) fun p251 =>
    zl (gh n kd p251.2.1 p251.2.2) fun J253 =>
    if zib (104 : Int32) 130 = true then
    if (lg_cmp p251.1.toInt64 (hF (104 : Int32).toNatClampNeg)) = (0 : Int32) then
    fL_law_L415 n kd sl sf ah hF gh (fL_law_B524 n kd sl sf ah hF gh) zF l3 l4 l6 (0 : Int64) (0 : Int32) J253 p251.2.2
    else
    some ((0 : Int32))
    else none
    else
    some ((0 : Int32))
    else
    some ((0 : Int32))
    else none
    else
    some ((0 : Int32))
    else none
    else
    some ((0 : Int32))
    else none
def fL_law (n : Nat) (kd : zMK) (sl : Nat) (sf : Nat → Int32) (ah : Nat) (hF : zML) (gh : zGh)  (l3 : Int32) (l4 : Int32) (I : zMI) (R : zMR) : Option (Int32) :=
    fL_law_L56 n kd sl sf ah hF gh (fL_law_B331 n kd sl sf ah hF gh) zF l3 l4 (0 : Int32) (0 : Int64) (0 : Int32) I R

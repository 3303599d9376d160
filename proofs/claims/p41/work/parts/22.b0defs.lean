/-! the law's text and build: laid by program out of the bytecode -/
theorem zgp {α : Type} {c : Prop} {x : Option α} {r : α} (h : @ite _ c (Classical.propDecidable _) x none = some r) : c ∧ x = some r := by
  by_cases k : c
  · rw [if_pos k] at h
    exact ⟨k, h⟩
  · rw [if_neg k] at h
    cases h

noncomputable section
def fL_text_L2 (n : Nat) (kd : zMK) (R : zMR) (sl : Nat) (sf : Nat → Int32)   : Nat → Nat → Int32 → zMI → Option (zMI)
  | 0, _, _, _ => none
  | q + 1, l1, l2, I =>
    if zKdB n kd l1 29 = true then
    zb (fJ0_length_8abf5D n kd I R l1) fun p2 =>
    if p2 ≤ l2 then
    some (I)
    else
    zb (fJ0_charAt_5068eD n kd I R l1 l2) fun p5 =>
    zb (f11_feed (1 : Int32) p5 (0 : Int32) (0 : Int32) (0 : Int32) (0 : Int32) I) fun p7 =>
    zb (f12_feed (1 : Int32) p5 (0 : Int32) (0 : Int32) (0 : Int32) (0 : Int32) p7.2) fun p9 =>
    @ite _ (zGE p7.2 p9.2) (Classical.propDecidable _)
    (fL_text_L2 n kd R sl sf q l1 (l2 + (1 : Int32)) p9.2)
    none
    else none
def fL_text (n : Nat) (kd : zMK) (R : zMR) (sl : Nat) (sf : Nat → Int32)  (l1 : Nat) (I : zMI) : Option (zMI) :=
    fL_text_L2 n kd R sl sf zF l1 (0 : Int32) I
def fL_build_L10 (sl : Nat) (sf : Nat → Int32) (k46 : Nat → zMK → zMI → zMR → Option (Nat × (Nat × zMK) × zMI × zMR)) : Nat → Int32 → Nat → zMK → zMI → zMR → Option (Nat × (Nat × zMK) × zMI × zMR)
  | 0, _, _, _, _, _ => none
  | q + 1, l2, n, kd, I, R =>
    if zShB n kd = true then
    if (9 : Int32) ≤ l2 then
    k46 n kd I R
    else
    zb (fL_high sl sf l2) fun p3 =>
    zb (f11_set n kd (0 : Int32) l2 p3 I) fun p5 =>
    zb (f12_set (0 : Int32) l2 p3 p5.2) fun p7 =>
    @ite _ (zGE p5.2 p7.2) (Classical.propDecidable _)
    (zb (fL_stick sl sf l2) fun p10 =>
    zb (f11_set n kd (1 : Int32) l2 p10 p7.2) fun p12 =>
    zb (f12_set (1 : Int32) l2 p10 p12.2) fun p14 =>
    @ite _ (zGE p12.2 p14.2) (Classical.propDecidable _)
    (fL_build_L10 sl sf k46 q (l2 + (1 : Int32)) n kd p14.2 R)
    none)
    none
    else none
def fL_build_L59 (sl : Nat) (sf : Nat → Int32) (k93 : Nat → zMK → zMI → zMR → Option (Nat × (Nat × zMK) × zMI × zMR)) : Nat → Int32 → Nat → zMK → zMI → zMR → Option (Nat × (Nat × zMK) × zMI × zMR)
  | 0, _, _, _, _, _ => none
  | q + 1, l2, n, kd, I, R =>
    if zShB n kd = true then
    zb (fL_many sl sf) fun p18 =>
    if p18 ≤ l2 then
    k93 n kd I R
    else
    zb (fL_kind sl sf l2) fun p21 =>
    zb (fL_more sl sf l2) fun p23 =>
    zb (fL_from sl sf l2) fun p25 =>
    zb (f11_walker p21 p23 p25 n kd I R) fun p27 =>
    if zShB p27.2.1.1 p27.2.1.2 = true then
    zb (f12_walker p21 p23 p25 p27.2.2.1) fun p30 =>
    @ite _ (zGE p27.2.2.1 p30.2) (Classical.propDecidable _)
    (fL_build_L59 sl sf k93 q (l2 + (1 : Int32)) p27.2.1.1 p27.2.1.2 p30.2 p27.2.2.2)
    none
    else none
    else none
def fL_build_B93 (sl : Nat) (sf : Nat → Int32)   (n : Nat) (kd : zMK) (I : zMI) (R : zMR) : Option (Nat × (Nat × zMK) × zMI × zMR) :=
    if zShB n kd = true then
    zb (fL_plain sl sf) fun p34 =>
    if p34 = (0 : Int32) then
    zl (uK kd n (28, 0)) fun D39 =>
    zl (uA I n (fun _ => 0)) fun J41 =>
    zl (uRA R n) fun T43 =>
    if zShB (n + 1) D39 = true then
    zb (fJ4_init_da8c8j n (n + 1) D39 J41 T43) fun p46 =>
    if zShB p46.1.1 p46.1.2 = true then
    if zKdB p46.1.1 p46.1.2 n 28 = true then
    zb (fJ4_append_15ec4j n 0 p46.1.1 p46.1.2 p46.2.1 p46.2.2) fun p50 =>
    if zShB p50.2.1.1 p50.2.1.2 = true then
    zb (fL_at sl sf (0 : Int32)) fun p53 =>
    if zKdB p50.2.1.1 p50.2.1.2 p50.1 28 = true then
    zb (fJ4_append_bf812j p50.1 ((p53 >>> ((6 : Int32) &&& 31)) &&& (1 : Int32)) p50.2.1.1 p50.2.1.2 p50.2.2.1 p50.2.2.2) fun p56 =>
    if zShB p56.2.1.1 p56.2.1.2 = true then
    if zKdB p56.2.1.1 p56.2.1.2 p56.1 28 = true then
    zb (fJ4_append_15ec4j p56.1 1 p56.2.1.1 p56.2.1.2 p56.2.2.1 p56.2.2.2) fun p60 =>
    if zShB p60.2.1.1 p60.2.1.2 = true then
    zb (fL_at sl sf (0 : Int32)) fun p63 =>
    if zKdB p60.2.1.1 p60.2.1.2 p60.1 28 = true then
    zb (fJ4_append_bf812j p60.1 ((p63 >>> ((7 : Int32) &&& 31)) &&& (3 : Int32)) p60.2.1.1 p60.2.1.2 p60.2.2.1 p60.2.2.2) fun p66 =>
    if zShB p66.2.1.1 p66.2.1.2 = true then
    if zKdB p66.2.1.1 p66.2.1.2 p66.1 28 = true then
    zb (fJ4_append_15ec4j p66.1 2 p66.2.1.1 p66.2.1.2 p66.2.2.1 p66.2.2.2) fun p70 =>
    if zShB p70.2.1.1 p70.2.1.2 = true then
    zb (fL_at sl sf (0 : Int32)) fun p73 =>
    if zKdB p70.2.1.1 p70.2.1.2 p70.1 28 = true then
    zb (fJ4_append_bf812j p70.1 ((p73 >>> ((9 : Int32) &&& 31)) &&& (3 : Int32)) p70.2.1.1 p70.2.1.2 p70.2.2.1 p70.2.2.2) fun p76 =>
    if zShB p76.2.1.1 p76.2.1.2 = true then
    if zKdB p76.2.1.1 p76.2.1.2 p76.1 28 = true then
    zb (fJ4_append_15ec4j p76.1 3 p76.2.1.1 p76.2.1.2 p76.2.2.1 p76.2.2.2) fun p80 =>
    if zShB p80.2.1.1 p80.2.1.2 = true then
    if zKdB p80.2.1.1 p80.2.1.2 p80.1 28 = true then
    zb (fJ4_toString_0e30dj p80.1 p80.2.1.1 p80.2.1.2 p80.2.2.1 p80.2.2.2) fun p84 =>
    if zShB p84.2.1.1 p84.2.1.2 = true then
    zb (fL_text p84.2.1.1 p84.2.1.2 p84.2.2.2 sl sf p84.1 p84.2.2.1) fun p87 =>
    zb (f11_text p84.2.1.1 p84.2.1.2 p87 p84.2.2.2) fun p89 =>
    if zShB p89.2.1.1 p89.2.1.2 = true then
    zb (f12_text p89.2.2.1) fun p92 =>
    @ite _ (zGE p89.2.2.1 p92.2) (Classical.propDecidable _)
    (zb (f11_force p89.1 p92.2) fun p95 =>
    zb (f12_force p89.1 p95.2) fun p97 =>
    @ite _ (zGE p95.2 p97.2) (Classical.propDecidable _)
    (some (32, (p89.2.1.1, p89.2.1.2), p97.2, p89.2.2.2))
    none)
    none
    else none
    else none
    else none
    else none
    else none
    else none
    else none
    else none
    else none
    else none
    else none
    else none
    else none
    else none
    else none
    else none
    else none
    else none
    else none
    else
    some (32, (n, kd), I, R)
    else none
def fL_build_B46 (sl : Nat) (sf : Nat → Int32)   (n : Nat) (kd : zMK) (I : zMI) (R : zMR) : Option (Nat × (Nat × zMK) × zMI × zMR) :=
    if zShB n kd = true then
    zb (fL_want sl sf) fun p101 =>
    zb (f11_set n kd (2 : Int32) (0 : Int32) p101 I) fun p103 =>
    zb (f12_set (2 : Int32) (0 : Int32) p101 p103.2) fun p105 =>
    @ite _ (zGE p103.2 p105.2) (Classical.propDecidable _)
    (fL_build_L59 sl sf (fL_build_B93 sl sf) 5 (0 : Int32) n kd p105.2 R)
    none
    else none
def fL_build (sl : Nat) (sf : Nat → Int32)  (n : Nat) (kd : zMK) (I : zMI) (R : zMR) : Option (Nat × (Nat × zMK) × zMI × zMR) :=
    fL_build_L10 sl sf (fL_build_B46 sl sf) zF (0 : Int32) n kd I R
end

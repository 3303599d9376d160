/-! the law comes to true, where each call does: laid by program -/
def zH0 (C : Nat → zMK → zMI → zMR → Prop) : Prop := ∀ (n : Nat) (kd : zMK) (I : zMI) (R : zMR) (a1 : Int32), C n kd I R → ∃ p7, f11_count I a1 = some p7 ∧ ∃ p9, f12_count I a1 = some p9 ∧ p7 = p9 ∧ C n kd I R
def zH1 (C : Nat → zMK → zMI → zMR → Prop) : Prop := ∀ (n : Nat) (kd : zMK) (I : zMI) (R : zMR) (a1 a2 a3 : Int32), C n kd I R → ∃ p16, f11_set n kd a1 a2 a3 I = some p16 ∧ ∃ p18, f12_set a1 a2 a3 p16.2 = some p18 ∧ p16.1 = p18.1 ∧ C n kd p18.2 R
def zH2 (C : Nat → zMK → zMI → zMR → Prop) : Prop := ∀ (n : Nat) (kd : zMK) (I : zMI) (R : zMR) (a1 a2 : Int32), C n kd I R → ∃ p24, f11_heap I a1 a2 = some p24 ∧ ∃ p26, f12_heap I a1 a2 = some p26 ∧ p24 = p26 ∧ C n kd I R
def zH3 (C : Nat → zMK → zMI → zMR → Prop) : Prop := ∀ (n : Nat) (kd : zMK) (I : zMI) (R : zMR) (a1 a2 a3 a4 a5 a6 : Int32), C n kd I R → ∃ p36, f11_feed a1 a2 a3 a4 a5 a6 I = some p36 ∧ ∃ p38, f12_feed a1 a2 a3 a4 a5 a6 p36.2 = some p38 ∧ p36.1 = p38.1 ∧ C n kd p38.2 R
def zH4 (C : Nat → zMK → zMI → zMR → Prop) : Prop := ∀ (n : Nat) (kd : zMK) (I : zMI) (R : zMR) , C n kd I R → ∃ p42, f11_text n kd I R = some p42 ∧ zShB p42.2.1.1 p42.2.1.2 = true ∧ ∃ p45, f12_text p42.2.2.1 = some p45 ∧ p42.1 = p45.1 ∧ C p42.2.1.1 p42.2.1.2 p45.2 p42.2.2.2
def zH5 (C : Nat → zMK → zMI → zMR → Prop) : Prop := ∀ (n : Nat) (kd : zMK) (I : zMI) (R : zMR) (a1 : Int32), C n kd I R → ∃ p50, f11_force a1 I = some p50 ∧ ∃ p52, f12_force a1 p50.2 = some p52 ∧ p50.1 = p52.1 ∧ C n kd p52.2 R
def zH6 (C : Nat → zMK → zMI → zMR → Prop) : Prop := ∀ (n : Nat) (kd : zMK) (I : zMI) (R : zMR) (a1 a2 a3 : Int32), C n kd I R → ∃ p59, f11_asks n kd R a1 a2 a3 I = some p59 ∧ ∃ p61, f12_asks a1 a2 a3 p59.2 = some p61 ∧ p59.1 = p61.1 ∧ C n kd p61.2 R
def zH7 (C : Nat → zMK → zMI → zMR → Prop) : Prop := ∀ (n : Nat) (kd : zMK) (I : zMI) (R : zMR) (a1 a2 a3 : Int32), C n kd I R → ∃ p68, f11_walker a1 a2 a3 n kd I R = some p68 ∧ zShB p68.2.1.1 p68.2.1.2 = true ∧ ∃ p71, f12_walker a1 a2 a3 p68.2.2.1 = some p71 ∧ p68.1 = p71.1 ∧ C p68.2.1.1 p68.2.1.2 p71.2 p68.2.2.2
def zH8 (C : Nat → zMK → zMI → zMR → Prop) : Prop := ∀ (n : Nat) (kd : zMK) (I : zMI) (R : zMR) (a1 a2 : Int32), C n kd I R → ∃ p77, f11_begin n kd R a1 a2 I = some p77 ∧ ∃ p79, f12_begin a1 a2 p77.2 = some p79 ∧ p77.1 = p79.1 ∧ C n kd p79.2 R
def zH9 (C : Nat → zMK → zMI → zMR → Prop) : Prop := ∀ (n : Nat) (kd : zMK) (I : zMI) (R : zMR) (a1 a2 : Int32), C n kd I R → ∃ p85, f11_told n kd I R a1 a2 = some p85 ∧ ∃ p87, f12_told I a1 a2 = some p87 ∧ p85 = p87 ∧ C n kd I R
def zH10 (C : Nat → zMK → zMI → zMR → Prop) : Prop := ∀ (n : Nat) (kd : zMK) (I : zMI) (R : zMR) (a1 a2 : Int32), C n kd I R → ∃ p93, f11_run n kd a1 a2 I R = some p93 ∧ ∃ p95, f12_run a1 a2 p93.2.1 = some p95 ∧ p93.1 = p95.1 ∧ C n kd p95.2 p93.2.2
def zH11 (C : Nat → zMK → zMI → zMR → Prop) : Prop := ∀ (n : Nat) (kd : zMK) (I : zMI) (R : zMR) (a1 a2 a3 : Int32), C n kd I R → ∃ p102, f11_one n kd a1 a2 a3 I R = some p102 ∧ ∃ p104, f12_one a1 a2 a3 p102.2.1 = some p104 ∧ p102.1 = p104.1 ∧ C n kd p104.2 p102.2.2
def zH12 (C : Nat → zMK → zMI → zMR → Prop) : Prop := ∀ (n : Nat) (kd : zMK) (I : zMI) (R : zMR) (a1 a2 a3 : Int32), C n kd I R → ∃ p111, f11_height n kd a1 a2 a3 I R = some p111 ∧ ∃ p113, f12_height a1 a2 a3 p111.2.1 = some p113 ∧ p111.1 = p113.1 ∧ C n kd p113.2 p111.2.2
def zH13 (C : Nat → zMK → zMI → zMR → Prop) : Prop := ∀ (n : Nat) (kd : zMK) (I : zMI) (R : zMR) (a1 : Int32), C n kd I R → ∃ p118, f11_go n kd a1 I R = some p118 ∧ ∃ p120, f12_go a1 p118.2.1 = some p120 ∧ p118.1 = p120.1 ∧ C n kd p120.2 p118.2.2
def zH14 (C : Nat → zMK → zMI → zMR → Prop) : Prop := ∀ (n : Nat) (kd : zMK) (I : zMI) (R : zMR) (a1 : Int32), C n kd I R → ∃ p125, f11_off n kd a1 I R = some p125 ∧ ∃ p127, f12_off a1 p125.2.1 = some p127 ∧ p125.1 = p127.1 ∧ C n kd p127.2 p125.2.2
def zH15 (C : Nat → zMK → zMI → zMR → Prop) : Prop := ∀ (n : Nat) (kd : zMK) (I : zMI) (R : zMR) (a1 a2 : Int32), C n kd I R → ∃ p133, f11_find n kd a1 a2 I R = some p133 ∧ ∃ p135, f12_find a1 a2 p133.2.1 = some p135 ∧ p133.1 = p135.1 ∧ C n kd p135.2 p133.2.2
def zH16 (C : Nat → zMK → zMI → zMR → Prop) : Prop := ∀ (n : Nat) (kd : zMK) (I : zMI) (R : zMR) (a1 : Int32), C n kd I R → ∃ p140, f11_best n kd a1 I R = some p140 ∧ ∃ p142, f12_best a1 p140.2.1 = some p142 ∧ p140.1 = p142.1 ∧ C n kd p142.2 p140.2.2
def zH17 (C : Nat → zMK → zMI → zMR → Prop) : Prop := ∀ (n : Nat) (kd : zMK) (I : zMI) (R : zMR) (a1 a2 : Int32), C n kd I R → ∃ p148, f11_start n kd a1 a2 I R = some p148 ∧ ∃ p150, f12_start a1 a2 p148.2.1 = some p150 ∧ p148.1 = p150.1 ∧ C n kd p150.2 p148.2.2
def zH18 (C : Nat → zMK → zMI → zMR → Prop) : Prop := ∀ (n : Nat) (kd : zMK) (I : zMI) (R : zMR) (a1 : Int32), C n kd I R → ∃ p155, f11_sit n kd a1 I R = some p155 ∧ ∃ p157, f12_sit a1 p155.2.1 = some p157 ∧ p155.1 = p157.1 ∧ C n kd p157.2 p155.2.2
def zH19 (C : Nat → zMK → zMI → zMR → Prop) : Prop := ∀ (n : Nat) (kd : zMK) (I : zMI) (R : zMR) (a1 : Int32), C n kd I R → ∃ p162, f11_worth n kd a1 I R = some p162 ∧ ∃ p164, f12_worth a1 p162.2.1 = some p164 ∧ p162.1 = p164.1 ∧ C n kd p164.2 p162.2.2
def zH20 (C : Nat → zMK → zMI → zMR → Prop) : Prop := ∀ (n : Nat) (kd : zMK) (I : zMI) (R : zMR) (a1 : Int32), C n kd I R → ∃ p169, f11_more n kd a1 I R = some p169 ∧ ∃ p171, f12_more a1 p169.2.1 = some p171 ∧ p169.1 = p171.1 ∧ C n kd p171.2 p169.2.2
def zH21 (C : Nat → zMK → zMI → zMR → Prop) : Prop := ∀ (n : Nat) (kd : zMK) (I : zMI) (R : zMR) (a1 : Int32), C n kd I R → ∃ p176, f11_stretch n kd a1 I R = some p176 ∧ ∃ p178, f12_stretch a1 p176.2.1 = some p178 ∧ p176.1 = p178.1 ∧ C n kd p178.2 p176.2.2
def zH22 (C : Nat → zMK → zMI → zMR → Prop) : Prop := ∀ (n : Nat) (kd : zMK) (I : zMI) (R : zMR) , C n kd I R → ∃ p182, f11_slowest n kd I R = some p182 ∧ ∃ p184, f12_slowest p182.2.1 = some p184 ∧ p182.1 = p184.1 ∧ C n kd p184.2 p182.2.2
def zH23 (C : Nat → zMK → zMI → zMR → Prop) : Prop := ∀ (n : Nat) (kd : zMK) (I : zMI) (R : zMR) (a1 a2 : Int32), C n kd I R → ∃ p190, f11_judge n kd a1 a2 I R = some p190 ∧ ∃ p192, f12_judge a1 a2 p190.2.1 = some p192 ∧ p190.1 = p192.1 ∧ C n kd p192.2 p190.2.2
def zH24 (C : Nat → zMK → zMI → zMR → Prop) : Prop := ∀ (n : Nat) (kd : zMK) (I : zMI) (R : zMR) (a1 a2 : Int32), C n kd I R → ∃ p198, f11_when n kd a1 a2 I R = some p198 ∧ ∃ p200, f12_when a1 a2 p198.2.1 = some p200 ∧ p198.1 = p200.1 ∧ C n kd p200.2 p198.2.2
def zH25 (C : Nat → zMK → zMI → zMR → Prop) : Prop := ∀ (n : Nat) (kd : zMK) (I : zMI) (R : zMR) (a1 a2 a3 : Int32), C n kd I R → ∃ p207, f11_sticks n kd a1 a2 a3 I R = some p207 ∧ ∃ p209, f12_sticks a1 a2 a3 p207.2.1 = some p209 ∧ p207.1 = p209.1 ∧ C n kd p209.2 p207.2.2
def zH26 (C : Nat → zMK → zMI → zMR → Prop) : Prop := ∀ (n : Nat) (kd : zMK) (I : zMI) (R : zMR) (a1 a2 a3 : Int32), C n kd I R → ∃ p216, f11_kinds a1 a2 a3 n kd I R = some p216 ∧ zShB p216.2.1.1 p216.2.1.2 = true ∧ ∃ p219, f12_kinds a1 a2 a3 p216.2.2.1 = some p219 ∧ p216.1 = p219.1 ∧ C p216.2.1.1 p216.2.1.2 p219.2 p216.2.2.2
def zH27 (C : Nat → zMK → zMI → zMR → Prop) : Prop := ∀ (n : Nat) (kd : zMK) (I : zMI) (R : zMR) (a1 a2 : Int32), C n kd I R → ∃ p225, f11_laws n kd a1 a2 I R = some p225 ∧ ∃ p227, f12_laws a1 a2 p225.2.1 = some p227 ∧ p225.1 = p227.1 ∧ C n kd p227.2 p225.2.2
def zH28 (C : Nat → zMK → zMI → zMR → Prop) : Prop := ∀ (n : Nat) (kd : zMK) (I : zMI) (R : zMR) (a1 a2 : Int32), C n kd I R → ∃ p233, f11_film n kd a1 a2 I R = some p233 ∧ ∃ p235, f12_film a1 a2 p233.2.1 = some p235 ∧ p233.1 = p235.1 ∧ C n kd p235.2 p233.2.2
def zH29 (C : Nat → zMK → zMI → zMR → Prop) : Prop := ∀ (n : Nat) (kd : zMK) (I : zMI) (R : zMR) (a1 a2 : Int32), C n kd I R → ∃ p241, f11_drawn n kd a1 a2 I R = some p241 ∧ ∃ p243, f12_drawn a1 a2 p241.2.1 = some p243 ∧ p241.1 = p243.1 ∧ C n kd p243.2 p241.2.2
def zH30 (C : Nat → zMK → zMI → zMR → Prop) : Prop := ∀ (n : Nat) (kd : zMK) (I : zMI) (R : zMR) (a1 a2 a3 a4 : Int32), C n kd I R → ∃ p251, f11_odds n kd a1 a2 a3 a4 I R = some p251 ∧ ∃ p253, f12_odds a1 a2 a3 a4 p251.2.1 = some p253 ∧ (lg_cmp p251.1 p253.1) = (0 : Int32) ∧ C n kd p253.2 p251.2.2
def zH31 (C : Nat → zMK → zMI → zMR → Prop) : Prop := ∀ (n : Nat) (kd : zMK) (I : zMI) (R : zMR) , C n kd I R → ∃ p257, f11_image n kd R I = some p257 ∧ ∃ p259, f12_image p257.2 = some p259 ∧ p257.1 = p259.1 ∧ C n kd p259.2 R
def zH32 (C : Nat → zMK → zMI → zMR → Prop) : Prop := ∀ (n : Nat) (kd : zMK) (I : zMI) (R : zMR) , C n kd I R → ∃ p263, f11_back n kd I R = some p263 ∧ ∃ p265, f12_back p263.2.1 = some p265 ∧ p263.1 = p265.1 ∧ C n kd p265.2 p263.2.2
def zH33 (C : Nat → zMK → zMI → zMR → Prop) : Prop := ∀ (n : Nat) (kd : zMK) (I : zMI) (R : zMR) (a1 a2 a3 : Int32), C n kd I R → ∃ p272, f11_sheet n kd a1 a2 a3 I = some p272 ∧ ∃ p274, f12_sheet a1 a2 a3 p272.2 = some p274 ∧ p272.1 = p274.1 ∧ C n kd p274.2 R
def zH34 (C : Nat → zMK → zMI → zMR → Prop) : Prop := ∀ (n : Nat) (kd : zMK) (I : zMI) (R : zMR) (a1 a2 a3 : Int32), C n kd I R → ∃ p281, f11_cell a1 a2 a3 I = some p281 ∧ ∃ p283, f12_cell a1 a2 a3 p281.2 = some p283 ∧ p281.1 = p283.1 ∧ C n kd p283.2 R
def zH35 (C : Nat → zMK → zMI → zMR → Prop) : Prop := ∀ (n : Nat) (kd : zMK) (I : zMI) (R : zMR) (a1 a2 a3 a4 a5 : Int32), C n kd I R → ∃ p292, f11_copy a1 a2 a3 a4 a5 I = some p292 ∧ ∃ p294, f12_copy a1 a2 a3 a4 a5 p292.2 = some p294 ∧ p292.1 = p294.1 ∧ C n kd p294.2 R
def zH36 (C : Nat → zMK → zMI → zMR → Prop) : Prop := ∀ (n : Nat) (kd : zMK) (I : zMI) (R : zMR) (a1 a2 a3 a4 : Int32), C n kd I R → ∃ p302, f11_walkersBy a1 a2 a3 a4 n kd I R = some p302 ∧ zShB p302.2.1.1 p302.2.1.2 = true ∧ ∃ p305, f12_walkersBy a1 a2 a3 a4 p302.2.2.1 = some p305 ∧ p302.1 = p305.1 ∧ C p302.2.1.1 p302.2.1.2 p305.2 p302.2.2.2
def zH37 (C : Nat → zMK → zMI → zMR → Prop) : Prop := ∀ (n : Nat) (kd : zMK) (I : zMI) (R : zMR) (a1 a2 : Int32), C n kd I R → ∃ p311, f11_taken n kd I R a1 a2 = some p311 ∧ ∃ p313, f12_taken I a1 a2 = some p313 ∧ p311 = p313 ∧ C n kd I R
theorem zj {i : Int32} {sl : Nat} (h0 : 0 ≤ i.toInt) (h1 : i.toInt + 7 ≤ sl) (hs : sl ≤ 3584) (c : Int32) (k : Int) (hc : c.toInt = k) (h2 : 0 ≤ k) (h3 : k ≤ 7) : (i + c).toInt = i.toInt + k := by
  rw [zadd (by omega) (by omega), hc]
set_option maxHeartbeats 4000000 in
set_option maxRecDepth 100000 in
theorem zloop {C : Nat → zMK → zMI → zMR → Prop} (hCS : ∀ n kd I R, C n kd I R → zSh n kd) (H0 : zH0 C) (H1 : zH1 C) (H2 : zH2 C) (H3 : zH3 C) (H4 : zH4 C) (H5 : zH5 C) (H6 : zH6 C) (H7 : zH7 C) (H8 : zH8 C) (H9 : zH9 C) (H10 : zH10 C) (H11 : zH11 C) (H12 : zH12 C) (H13 : zH13 C) (H14 : zH14 C) (H15 : zH15 C) (H16 : zH16 C) (H17 : zH17 C) (H18 : zH18 C) (H19 : zH19 C) (H20 : zH20 C) (H21 : zH21 C) (H22 : zH22 C) (H23 : zH23 C) (H24 : zH24 C) (H25 : zH25 C) (H26 : zH26 C) (H27 : zH27 C) (H28 : zH28 C) (H29 : zH29 C) (H30 : zH30 C) (H31 : zH31 C) (H32 : zH32 C) (H33 : zH33 C) (H34 : zH34 C) (H35 : zH35 C) (H36 : zH36 C) (H37 : zH37 C) {sl : Nat} {sf : Nat → Int32} (hs : sl ≤ 3584) : ∀ (q : Nat) (l3 : Int32) (n : Nat) (kd : zMK) (I : zMI) (R : zMR), C n kd I R → 0 ≤ l3.toInt → l3.toInt ≤ sl → (sl : Int) + 7 ≤ l3.toInt + 7 * q → ∃ r, fL_law_L18 sl sf q l3 n kd I R = some r ∧ r.1 = 1 := by
  intro q
  induction q with
  | zero =>
    intro l3 n kd I R hC h0 h1 h2
    exfalso
    omega
  | succ q ih =>
    intro l3 n kd I R hC h0 h1 h2
    have eS : (Int32.ofNat sl).toInt = sl := nI_toInt (by omega)
    have e7 : (Int32.ofNat sl - (7 : Int32)).toInt = sl - 7 := by
      have z7 : (7 : Int32).toInt = 7 := rfl
      rw [zsub (by rw [eS, z7]; omega) (by rw [eS, z7]; omega), eS, z7]
    unfold fL_law_L18
    rw [if_pos (zSh_B (hCS _ _ _ _ hC))]
    by_cases hx : (Int32.ofNat sl - (7 : Int32)) < l3
    · rw [if_pos hx]
      exact ⟨_, rfl, rfl⟩
    rw [if_neg hx]
    have h7 : l3.toInt + 7 ≤ sl := by
      rw [zlt_iff, e7] at hx
      omega
    have step : ∀ (n : Nat) (kd : zMK) (I : zMI) (R : zMR), C n kd I R → ∃ r, fL_law_B1487 sl sf (fL_law_L18 sl sf q) l3 n kd I R = some r ∧ r.1 = 1 := fun n kd I R h => by
      unfold fL_law_B1487
      rw [if_pos (zSh_B (hCS _ _ _ _ h))]
      have e := zj h0 h7 hs 7 7 rfl (by decide) (by decide)
      exact ih _ n kd I R h (by omega) (by omega) (by omega)
    rw [if_pos (zib_ok h0 (by omega))]
    have z1 : zib (l3 + (1 : Int32)) sl = true := by
      have e := zj h0 h7 hs 1 1 rfl (by decide) (by decide)
      exact zib_ok (by omega) (by omega)
    have z2 : zib (l3 + (2 : Int32)) sl = true := by
      have e := zj h0 h7 hs 2 2 rfl (by decide) (by decide)
      exact zib_ok (by omega) (by omega)
    have z3 : zib (l3 + (3 : Int32)) sl = true := by
      have e := zj h0 h7 hs 3 3 rfl (by decide) (by decide)
      exact zib_ok (by omega) (by omega)
    have z4 : zib (l3 + (4 : Int32)) sl = true := by
      have e := zj h0 h7 hs 4 4 rfl (by decide) (by decide)
      exact zib_ok (by omega) (by omega)
    have z5 : zib (l3 + (5 : Int32)) sl = true := by
      have e := zj h0 h7 hs 5 5 rfl (by decide) (by decide)
      exact zib_ok (by omega) (by omega)
    have z6 : zib (l3 + (6 : Int32)) sl = true := by
      have e := zj h0 h7 hs 6 6 rfl (by decide) (by decide)
      exact zib_ok (by omega) (by omega)
    generalize (sf l3.toNatClampNeg) &&& (63 : Int32) = t
    by_cases c0 : t = (0 : Int32)
    · rw [if_pos c0]
      rw [if_pos z1]
      obtain ⟨p7, e1, p9, e2, ev, hc⟩ := H0 n kd I R (sf (l3 + (1 : Int32)).toNatClampNeg) hC
      rw [e1, zb_some]
      rw [e2, zb_some, if_pos ev]
      exact step _ _ _ _ hc
    rw [if_neg c0]
    by_cases c1 : t = (1 : Int32)
    · rw [if_pos c1]
      rw [if_pos z1, if_pos z2, if_pos z3]
      obtain ⟨p16, e1, p18, e2, ev, hc⟩ := H1 n kd I R (sf (l3 + (1 : Int32)).toNatClampNeg) (sf (l3 + (2 : Int32)).toNatClampNeg) (sf (l3 + (3 : Int32)).toNatClampNeg) hC
      rw [e1, zb_some]
      rw [e2, zb_some, if_pos ev]
      exact step _ _ _ _ hc
    rw [if_neg c1]
    by_cases c2 : t = (2 : Int32)
    · rw [if_pos c2]
      rw [if_pos z1, if_pos z2]
      obtain ⟨p24, e1, p26, e2, ev, hc⟩ := H2 n kd I R (sf (l3 + (1 : Int32)).toNatClampNeg) (sf (l3 + (2 : Int32)).toNatClampNeg) hC
      rw [e1, zb_some]
      rw [e2, zb_some, if_pos ev]
      exact step _ _ _ _ hc
    rw [if_neg c2]
    by_cases c3 : t = (3 : Int32)
    · rw [if_pos c3]
      rw [if_pos z1, if_pos z2, if_pos z3, if_pos z4, if_pos z5, if_pos z6]
      obtain ⟨p36, e1, p38, e2, ev, hc⟩ := H3 n kd I R (sf (l3 + (1 : Int32)).toNatClampNeg) (sf (l3 + (2 : Int32)).toNatClampNeg) (sf (l3 + (3 : Int32)).toNatClampNeg) (sf (l3 + (4 : Int32)).toNatClampNeg) (sf (l3 + (5 : Int32)).toNatClampNeg) (sf (l3 + (6 : Int32)).toNatClampNeg) hC
      rw [e1, zb_some]
      rw [e2, zb_some, if_pos ev]
      exact step _ _ _ _ hc
    rw [if_neg c3]
    by_cases c4 : t = (4 : Int32)
    · rw [if_pos c4]
      obtain ⟨p42, e1, g, p45, e2, ev, hc⟩ := H4 n kd I R  hC
      rw [e1, zb_some]
      rw [if_pos g]
      rw [e2, zb_some, if_pos ev]
      exact step _ _ _ _ hc
    rw [if_neg c4]
    by_cases c5 : t = (5 : Int32)
    · rw [if_pos c5]
      rw [if_pos z1]
      obtain ⟨p50, e1, p52, e2, ev, hc⟩ := H5 n kd I R (sf (l3 + (1 : Int32)).toNatClampNeg) hC
      rw [e1, zb_some]
      rw [e2, zb_some, if_pos ev]
      exact step _ _ _ _ hc
    rw [if_neg c5]
    by_cases c6 : t = (6 : Int32)
    · rw [if_pos c6]
      rw [if_pos z1, if_pos z2, if_pos z3]
      obtain ⟨p59, e1, p61, e2, ev, hc⟩ := H6 n kd I R (sf (l3 + (1 : Int32)).toNatClampNeg) (sf (l3 + (2 : Int32)).toNatClampNeg) (sf (l3 + (3 : Int32)).toNatClampNeg) hC
      rw [e1, zb_some]
      rw [e2, zb_some, if_pos ev]
      exact step _ _ _ _ hc
    rw [if_neg c6]
    by_cases c7 : t = (7 : Int32)
    · rw [if_pos c7]
      rw [if_pos z1, if_pos z2, if_pos z3]
      obtain ⟨p68, e1, g, p71, e2, ev, hc⟩ := H7 n kd I R (sf (l3 + (1 : Int32)).toNatClampNeg) (sf (l3 + (2 : Int32)).toNatClampNeg) (sf (l3 + (3 : Int32)).toNatClampNeg) hC
      rw [e1, zb_some]
      rw [if_pos g]
      rw [e2, zb_some, if_pos ev]
      exact step _ _ _ _ hc
    rw [if_neg c7]
    by_cases c8 : t = (8 : Int32)
    · rw [if_pos c8]
      rw [if_pos z1, if_pos z2]
      obtain ⟨p77, e1, p79, e2, ev, hc⟩ := H8 n kd I R (sf (l3 + (1 : Int32)).toNatClampNeg) (sf (l3 + (2 : Int32)).toNatClampNeg) hC
      rw [e1, zb_some]
      rw [e2, zb_some, if_pos ev]
      exact step _ _ _ _ hc
    rw [if_neg c8]
    by_cases c9 : t = (9 : Int32)
    · rw [if_pos c9]
      rw [if_pos z1, if_pos z2]
      obtain ⟨p85, e1, p87, e2, ev, hc⟩ := H9 n kd I R (sf (l3 + (1 : Int32)).toNatClampNeg) (sf (l3 + (2 : Int32)).toNatClampNeg) hC
      rw [e1, zb_some]
      rw [e2, zb_some, if_pos ev]
      exact step _ _ _ _ hc
    rw [if_neg c9]
    by_cases c10 : t = (10 : Int32)
    · rw [if_pos c10]
      rw [if_pos z1, if_pos z2]
      obtain ⟨p93, e1, p95, e2, ev, hc⟩ := H10 n kd I R (sf (l3 + (1 : Int32)).toNatClampNeg) (sf (l3 + (2 : Int32)).toNatClampNeg) hC
      rw [e1, zb_some]
      rw [e2, zb_some, if_pos ev]
      exact step _ _ _ _ hc
    rw [if_neg c10]
    by_cases c11 : t = (11 : Int32)
    · rw [if_pos c11]
      rw [if_pos z1, if_pos z2, if_pos z3]
      obtain ⟨p102, e1, p104, e2, ev, hc⟩ := H11 n kd I R (sf (l3 + (1 : Int32)).toNatClampNeg) (sf (l3 + (2 : Int32)).toNatClampNeg) (sf (l3 + (3 : Int32)).toNatClampNeg) hC
      rw [e1, zb_some]
      rw [e2, zb_some, if_pos ev]
      exact step _ _ _ _ hc
    rw [if_neg c11]
    by_cases c12 : t = (12 : Int32)
    · rw [if_pos c12]
      rw [if_pos z1, if_pos z2, if_pos z3]
      obtain ⟨p111, e1, p113, e2, ev, hc⟩ := H12 n kd I R (sf (l3 + (1 : Int32)).toNatClampNeg) (sf (l3 + (2 : Int32)).toNatClampNeg) (sf (l3 + (3 : Int32)).toNatClampNeg) hC
      rw [e1, zb_some]
      rw [e2, zb_some, if_pos ev]
      exact step _ _ _ _ hc
    rw [if_neg c12]
    by_cases c13 : t = (13 : Int32)
    · rw [if_pos c13]
      rw [if_pos z1]
      obtain ⟨p118, e1, p120, e2, ev, hc⟩ := H13 n kd I R (sf (l3 + (1 : Int32)).toNatClampNeg) hC
      rw [e1, zb_some]
      rw [e2, zb_some, if_pos ev]
      exact step _ _ _ _ hc
    rw [if_neg c13]
    by_cases c14 : t = (14 : Int32)
    · rw [if_pos c14]
      rw [if_pos z1]
      obtain ⟨p125, e1, p127, e2, ev, hc⟩ := H14 n kd I R (sf (l3 + (1 : Int32)).toNatClampNeg) hC
      rw [e1, zb_some]
      rw [e2, zb_some, if_pos ev]
      exact step _ _ _ _ hc
    rw [if_neg c14]
    by_cases c15 : t = (15 : Int32)
    · rw [if_pos c15]
      rw [if_pos z1, if_pos z2]
      obtain ⟨p133, e1, p135, e2, ev, hc⟩ := H15 n kd I R (sf (l3 + (1 : Int32)).toNatClampNeg) (sf (l3 + (2 : Int32)).toNatClampNeg) hC
      rw [e1, zb_some]
      rw [e2, zb_some, if_pos ev]
      exact step _ _ _ _ hc
    rw [if_neg c15]
    by_cases c16 : t = (16 : Int32)
    · rw [if_pos c16]
      rw [if_pos z1]
      obtain ⟨p140, e1, p142, e2, ev, hc⟩ := H16 n kd I R (sf (l3 + (1 : Int32)).toNatClampNeg) hC
      rw [e1, zb_some]
      rw [e2, zb_some, if_pos ev]
      exact step _ _ _ _ hc
    rw [if_neg c16]
    by_cases c17 : t = (17 : Int32)
    · rw [if_pos c17]
      rw [if_pos z1, if_pos z2]
      obtain ⟨p148, e1, p150, e2, ev, hc⟩ := H17 n kd I R (sf (l3 + (1 : Int32)).toNatClampNeg) (sf (l3 + (2 : Int32)).toNatClampNeg) hC
      rw [e1, zb_some]
      rw [e2, zb_some, if_pos ev]
      exact step _ _ _ _ hc
    rw [if_neg c17]
    by_cases c18 : t = (18 : Int32)
    · rw [if_pos c18]
      rw [if_pos z1]
      obtain ⟨p155, e1, p157, e2, ev, hc⟩ := H18 n kd I R (sf (l3 + (1 : Int32)).toNatClampNeg) hC
      rw [e1, zb_some]
      rw [e2, zb_some, if_pos ev]
      exact step _ _ _ _ hc
    rw [if_neg c18]
    by_cases c19 : t = (19 : Int32)
    · rw [if_pos c19]
      rw [if_pos z1]
      obtain ⟨p162, e1, p164, e2, ev, hc⟩ := H19 n kd I R (sf (l3 + (1 : Int32)).toNatClampNeg) hC
      rw [e1, zb_some]
      rw [e2, zb_some, if_pos ev]
      exact step _ _ _ _ hc
    rw [if_neg c19]
    by_cases c20 : t = (20 : Int32)
    · rw [if_pos c20]
      rw [if_pos z1]
      obtain ⟨p169, e1, p171, e2, ev, hc⟩ := H20 n kd I R (sf (l3 + (1 : Int32)).toNatClampNeg) hC
      rw [e1, zb_some]
      rw [e2, zb_some, if_pos ev]
      exact step _ _ _ _ hc
    rw [if_neg c20]
    by_cases c21 : t = (21 : Int32)
    · rw [if_pos c21]
      rw [if_pos z1]
      obtain ⟨p176, e1, p178, e2, ev, hc⟩ := H21 n kd I R (sf (l3 + (1 : Int32)).toNatClampNeg) hC
      rw [e1, zb_some]
      rw [e2, zb_some, if_pos ev]
      exact step _ _ _ _ hc
    rw [if_neg c21]
    by_cases c22 : t = (22 : Int32)
    · rw [if_pos c22]
      obtain ⟨p182, e1, p184, e2, ev, hc⟩ := H22 n kd I R  hC
      rw [e1, zb_some]
      rw [e2, zb_some, if_pos ev]
      exact step _ _ _ _ hc
    rw [if_neg c22]
    by_cases c23 : t = (23 : Int32)
    · rw [if_pos c23]
      rw [if_pos z1, if_pos z2]
      obtain ⟨p190, e1, p192, e2, ev, hc⟩ := H23 n kd I R (sf (l3 + (1 : Int32)).toNatClampNeg) (sf (l3 + (2 : Int32)).toNatClampNeg) hC
      rw [e1, zb_some]
      rw [e2, zb_some, if_pos ev]
      exact step _ _ _ _ hc
    rw [if_neg c23]
    by_cases c24 : t = (24 : Int32)
    · rw [if_pos c24]
      rw [if_pos z1, if_pos z2]
      obtain ⟨p198, e1, p200, e2, ev, hc⟩ := H24 n kd I R (sf (l3 + (1 : Int32)).toNatClampNeg) (sf (l3 + (2 : Int32)).toNatClampNeg) hC
      rw [e1, zb_some]
      rw [e2, zb_some, if_pos ev]
      exact step _ _ _ _ hc
    rw [if_neg c24]
    by_cases c25 : t = (25 : Int32)
    · rw [if_pos c25]
      rw [if_pos z1, if_pos z2, if_pos z3]
      obtain ⟨p207, e1, p209, e2, ev, hc⟩ := H25 n kd I R (sf (l3 + (1 : Int32)).toNatClampNeg) (sf (l3 + (2 : Int32)).toNatClampNeg) (sf (l3 + (3 : Int32)).toNatClampNeg) hC
      rw [e1, zb_some]
      rw [e2, zb_some, if_pos ev]
      exact step _ _ _ _ hc
    rw [if_neg c25]
    by_cases c26 : t = (26 : Int32)
    · rw [if_pos c26]
      rw [if_pos z1, if_pos z2, if_pos z3]
      obtain ⟨p216, e1, g, p219, e2, ev, hc⟩ := H26 n kd I R (sf (l3 + (1 : Int32)).toNatClampNeg) (sf (l3 + (2 : Int32)).toNatClampNeg) (sf (l3 + (3 : Int32)).toNatClampNeg) hC
      rw [e1, zb_some]
      rw [if_pos g]
      rw [e2, zb_some, if_pos ev]
      exact step _ _ _ _ hc
    rw [if_neg c26]
    by_cases c27 : t = (27 : Int32)
    · rw [if_pos c27]
      rw [if_pos z1, if_pos z2]
      obtain ⟨p225, e1, p227, e2, ev, hc⟩ := H27 n kd I R (sf (l3 + (1 : Int32)).toNatClampNeg) (sf (l3 + (2 : Int32)).toNatClampNeg) hC
      rw [e1, zb_some]
      rw [e2, zb_some, if_pos ev]
      exact step _ _ _ _ hc
    rw [if_neg c27]
    by_cases c28 : t = (28 : Int32)
    · rw [if_pos c28]
      rw [if_pos z1, if_pos z2]
      obtain ⟨p233, e1, p235, e2, ev, hc⟩ := H28 n kd I R (sf (l3 + (1 : Int32)).toNatClampNeg) (sf (l3 + (2 : Int32)).toNatClampNeg) hC
      rw [e1, zb_some]
      rw [e2, zb_some, if_pos ev]
      exact step _ _ _ _ hc
    rw [if_neg c28]
    by_cases c29 : t = (29 : Int32)
    · rw [if_pos c29]
      rw [if_pos z1, if_pos z2]
      obtain ⟨p241, e1, p243, e2, ev, hc⟩ := H29 n kd I R (sf (l3 + (1 : Int32)).toNatClampNeg) (sf (l3 + (2 : Int32)).toNatClampNeg) hC
      rw [e1, zb_some]
      rw [e2, zb_some, if_pos ev]
      exact step _ _ _ _ hc
    rw [if_neg c29]
    by_cases c30 : t = (30 : Int32)
    · rw [if_pos c30]
      rw [if_pos z1, if_pos z2, if_pos z3, if_pos z4]
      obtain ⟨p251, e1, p253, e2, ev, hc⟩ := H30 n kd I R (sf (l3 + (1 : Int32)).toNatClampNeg) (sf (l3 + (2 : Int32)).toNatClampNeg) (sf (l3 + (3 : Int32)).toNatClampNeg) (sf (l3 + (4 : Int32)).toNatClampNeg) hC
      rw [e1, zb_some]
      rw [e2, zb_some, if_pos ev]
      exact step _ _ _ _ hc
    rw [if_neg c30]
    by_cases c31 : t = (31 : Int32)
    · rw [if_pos c31]
      obtain ⟨p257, e1, p259, e2, ev, hc⟩ := H31 n kd I R  hC
      rw [e1, zb_some]
      rw [e2, zb_some, if_pos ev]
      exact step _ _ _ _ hc
    rw [if_neg c31]
    by_cases c32 : t = (32 : Int32)
    · rw [if_pos c32]
      obtain ⟨p263, e1, p265, e2, ev, hc⟩ := H32 n kd I R  hC
      rw [e1, zb_some]
      rw [e2, zb_some, if_pos ev]
      exact step _ _ _ _ hc
    rw [if_neg c32]
    by_cases c33 : t = (33 : Int32)
    · rw [if_pos c33]
      rw [if_pos z1, if_pos z2, if_pos z3]
      obtain ⟨p272, e1, p274, e2, ev, hc⟩ := H33 n kd I R (sf (l3 + (1 : Int32)).toNatClampNeg) (sf (l3 + (2 : Int32)).toNatClampNeg) (sf (l3 + (3 : Int32)).toNatClampNeg) hC
      rw [e1, zb_some]
      rw [e2, zb_some, if_pos ev]
      exact step _ _ _ _ hc
    rw [if_neg c33]
    by_cases c34 : t = (34 : Int32)
    · rw [if_pos c34]
      rw [if_pos z1, if_pos z2, if_pos z3]
      obtain ⟨p281, e1, p283, e2, ev, hc⟩ := H34 n kd I R (sf (l3 + (1 : Int32)).toNatClampNeg) (sf (l3 + (2 : Int32)).toNatClampNeg) (sf (l3 + (3 : Int32)).toNatClampNeg) hC
      rw [e1, zb_some]
      rw [e2, zb_some, if_pos ev]
      exact step _ _ _ _ hc
    rw [if_neg c34]
    by_cases c35 : t = (35 : Int32)
    · rw [if_pos c35]
      rw [if_pos z1, if_pos z2, if_pos z3, if_pos z4, if_pos z5]
      obtain ⟨p292, e1, p294, e2, ev, hc⟩ := H35 n kd I R (sf (l3 + (1 : Int32)).toNatClampNeg) (sf (l3 + (2 : Int32)).toNatClampNeg) (sf (l3 + (3 : Int32)).toNatClampNeg) (sf (l3 + (4 : Int32)).toNatClampNeg) (sf (l3 + (5 : Int32)).toNatClampNeg) hC
      rw [e1, zb_some]
      rw [e2, zb_some, if_pos ev]
      exact step _ _ _ _ hc
    rw [if_neg c35]
    by_cases c36 : t = (36 : Int32)
    · rw [if_pos c36]
      rw [if_pos z1, if_pos z2, if_pos z3, if_pos z4]
      obtain ⟨p302, e1, g, p305, e2, ev, hc⟩ := H36 n kd I R (sf (l3 + (1 : Int32)).toNatClampNeg) (sf (l3 + (2 : Int32)).toNatClampNeg) (sf (l3 + (3 : Int32)).toNatClampNeg) (sf (l3 + (4 : Int32)).toNatClampNeg) hC
      rw [e1, zb_some]
      rw [if_pos g]
      rw [e2, zb_some, if_pos ev]
      exact step _ _ _ _ hc
    rw [if_neg c36]
    by_cases c37 : t = (37 : Int32)
    · rw [if_pos c37]
      rw [if_pos z1, if_pos z2]
      obtain ⟨p311, e1, p313, e2, ev, hc⟩ := H37 n kd I R (sf (l3 + (1 : Int32)).toNatClampNeg) (sf (l3 + (2 : Int32)).toNatClampNeg) hC
      rw [e1, zb_some]
      rw [e2, zb_some, if_pos ev]
      exact step _ _ _ _ hc
    rw [if_neg c37]
    exact step _ _ _ _ hC

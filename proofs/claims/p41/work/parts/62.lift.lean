/-! pure part: one lifts -/
theorem zor_all : ∀ x, x < 512 → ∀ h, h < 9 → (Int32.ofNat x ||| ((1 : Int32) <<< (Int32.ofNat h &&& 31))).toInt = ((x ||| 1 <<< h : Nat) : Int) := by decide +kernel
theorem zbit {x i : Int32} {h : Nat} (hx : 0 ≤ x.toInt ∧ x.toInt < 512) (hi : i.toInt = (h : Int)) (hh : h < 9) : (0 ≤ (x ||| ((1 : Int32) <<< (i &&& 31))).toInt ∧ (x ||| ((1 : Int32) <<< (i &&& 31))).toInt < 512) ∧ ∀ h', (x ||| ((1 : Int32) <<< (i &&& 31))).toInt.toNat.testBit h' = (x.toInt.toNat.testBit h' || decide (h' = h)) := by
  have e := zor_all x.toInt.toNat (by omega) h hh
  have ex : Int32.ofNat x.toInt.toNat = x := zofn hx.1
  have ei : Int32.ofNat h = i := by
    have := zofn (x := i) (by omega)
    rw [hi] at this
    exact this
  rw [ex, ei] at e
  rw [e]
  have lt : x.toInt.toNat ||| 1 <<< h < 2 ^ 9 := Nat.or_lt_two_pow (by omega) (by
    rw [Nat.one_shiftLeft]
    exact Nat.pow_lt_pow_right (by decide) hh)
  refine ⟨⟨by omega, by omega⟩, fun h' => ?_⟩
  rw [Int.toNat_natCast, Nat.testBit_or, Nat.one_shiftLeft, Nat.testBit_two_pow]
  congr 1
  by_cases q : h = h'
  · rw [decide_eq_true q, decide_eq_true q.symm]
  · rw [decide_eq_false q, decide_eq_false (fun x => q x.symm)]
def zsrt (I J : zMI) (a w : Nat) : Prop := (J 106 w = 0 ∧ I a 9 = 0 ∧ I a 10 = 0) ∨ (J 106 w = 1 ∧ I a 9 = 1 ∧ I a 10 = 0) ∨ (J 106 w = 2 ∧ I a 10 = 1)
/-- who missed, missed -/
def zmi (J J' : zMI) : Prop := ∀ h, (J 81 45).toInt.toNat.testBit h = true → (J' 81 45).toInt.toNat.testBit h = true
/-- what a lifting leaves: the class's I1, the reference's J1 -/
def zP1 (n : Nat) (kd : zMK) (A : Nat → Nat) (s w h : Nat) (I J I1 J1 : zMI) : Prop := zDx (A w) s I I1 ∧ zEx w J J1 ∧ (∀ j, j ≠ 5 → j ≠ 9 → j ≠ 10 → I1 (A w) j = I (A w) j) ∧ zsrt I1 J1 (A w) w ∧ J1 103 w = J 103 w + 1 ∧ J1 100 = J 100 ∧ J1 101 = J 101 ∧ J1 104 = J 104 ∧ J1 105 = J 105 ∧ (∀ h', h' < 9 → zGhq I1 J1 h') ∧ (∀ h', h' < 9 → h' ≠ h → I1 (46 + h') 4 = I (46 + h') 4) ∧ I1 (46 + h) 4 = I (46 + h) 4 - 1 ∧ I1 42 = I 42 ∧ I1 45 = I 45 ∧ (∀ j, j ≠ 45 → J1 81 j = J 81 j) ∧ (0 ≤ (J1 81 45).toInt ∧ (J1 81 45).toInt < 512) ∧ J1 110 = J 110 ∧ zmi J J1
theorem g2_lift {h : Nat} {tm two : Int32} {I : zMI} (hh : h < 9) (h1 : 0 < (I (46 + h) 1).toInt) (h2 : two = if I (46 + h) 2 = 0 then 0 else if (I (46 + h) 3 + 1) - (I (46 + h) 3 + 1) / (I (46 + h) 2) * (I (46 + h) 2) = 0 then (if I (46 + h) 1 < 2 then 0 else 1) else 0) :
    f2_lift (46 + h) tm I = some (if two = 0 then 0 else 1, if I (46 + h) 1 - (if two = 0 then 1 else 2) = 0 then uI (uI (uI I (46 + h) 3 (I (46 + h) 3 + 1)) (46 + h) 1 (I (46 + h) 1 - (if two = 0 then 1 else 2))) (46 + h) 5 tm else uI (uI I (46 + h) 3 (I (46 + h) 3 + 1)) (46 + h) 1 (I (46 + h) 1 - (if two = 0 then 1 else 2))) := by
  have hp : zHpB (46 + h) = true := by
    unfold zHpB
    simp
    omega
  have r2 : uI I (46 + h) 3 (I (46 + h) 3 + 1) (46 + h) 2 = I (46 + h) 2 := uI_off (by decide)
  have r1 : uI I (46 + h) 3 (I (46 + h) 3 + 1) (46 + h) 1 = I (46 + h) 1 := uI_off (by decide)
  have r3 : uI I (46 + h) 3 (I (46 + h) 3 + 1) (46 + h) 3 = I (46 + h) 3 + 1 := uI_at
  unfold f2_lift f2_lift_B87
  rw [if_pos hp, if_pos (by rw [zlt_iff, z0]; exact h1), zl_eq, r2, r1, r3]
  have e : (if I (46 + h) 2 = (0 : Int32) then some (0 : Int32) else if ¬ I (46 + h) 2 = 0 then if (I (46 + h) 3 + 1) - (I (46 + h) 3 + 1) / (I (46 + h) 2) * (I (46 + h) 2) = 0 then (if I (46 + h) 1 < 2 then some 0 else some 1) else some 0 else none) = some two := by
    rw [h2]
    by_cases c1 : I (46 + h) 2 = (0 : Int32)
    · rw [if_pos c1, if_pos c1]
    · rw [if_neg c1, if_neg c1, if_pos c1]
      repeat' split
      all_goals rfl
  rw [e, zb_some, zl_eq, zl_eq, uI_at]
  by_cases c : I (46 + h) 1 - (if two = 0 then (1 : Int32) else 2) = 0
  · rw [if_pos c, if_pos c]
    rfl
  · rw [if_neg c, if_neg c]
    rfl
theorem g12_lifts0 {w h : Nat} {wi t at0 : Int32} {J : zMI} (hw : w < 5) (ew : wi.toInt = (w : Int)) (hh : h < 9) (ea : J 100 w = at0) (eh : at0.toInt = (h : Int)) (h0 : J 107 h = 0) :
    f12_lifts wi t J = some (uI (uI (uI J 103 w (J 103 w + 1)) 81 45 (J 81 45 ||| ((1 : Int32) <<< (at0 &&& 31)))) 106 w 2) := by
  have n1 : wi.toNatClampNeg = w := by rw [zcl_iff, ew]; omega
  have n2 : at0.toNatClampNeg = h := by rw [zcl_iff, eh]; omega
  unfold f12_lifts
  rw [if_pos (zib_ok (by omega) (by omega)), n1, zl_eq, ea, if_pos (zib_ok (by omega) (by omega)), n2, uI_ne (show 107 ≠ 103 by decide), if_pos h0, uI_ne (show 81 ≠ 103 by decide), zl_eq, zl_eq]
theorem g12_lifts1 {w h : Nat} {wi t at0 two : Int32} {J : zMI} (hw : w < 5) (ew : wi.toInt = (w : Int)) (hh : h < 9) (ea : J 100 w = at0) (eh : at0.toInt = (h : Int)) (h0 : J 107 h ≠ 0) (hk : 0 ≤ (J 83 h).toInt ∧ (J 83 h).toInt ≤ 9)
    (h2 : two = if J 83 h = 0 then 0 else if (J 108 h + 1) - (J 108 h + 1) / (J 83 h) * (J 83 h) = 0 then (if J 107 h < 2 then 0 else 1) else 0) :
    f12_lifts wi t J = some (uI (uI (uI (uI (uI J 103 w (J 103 w + 1)) 108 h (J 108 h + 1)) 107 h (J 107 h - (if two = 0 then 1 else 2))) 106 w (if two = 0 then J 106 w else if J 106 w = 0 then 1 else J 106 w)) 109 h (if J 107 h - (if two = 0 then 1 else 2) = 0 then t else J 109 h)) := by
  have n1 : wi.toNatClampNeg = w := by rw [zcl_iff, ew]; omega
  have n2 : at0.toNatClampNeg = h := by rw [zcl_iff, eh]; omega
  have hz9 : zib at0 9 = true := zib_ok (by omega) (by omega)
  have hz5 : zib wi 5 = true := zib_ok (by omega) (by omega)
  have B : ∀ s0 : Int32, f12_lifts_B102 wi t at0 s0 (uI (uI J 103 w (J 103 w + 1)) 108 h (J 108 h + 1)) = some (uI (uI (uI (uI (uI J 103 w (J 103 w + 1)) 108 h (J 108 h + 1)) 107 h (J 107 h - (if s0 = 0 then 1 else 2))) 106 w (if s0 = 0 then J 106 w else if J 106 w = 0 then 1 else J 106 w)) 109 h (if J 107 h - (if s0 = 0 then 1 else 2) = 0 then t else J 109 h)) := fun s0 => by
    unfold f12_lifts_B102
    rw [if_pos hz9, n2, n1, zl_eq, zl_eq]
    have x : uI (uI (uI J 103 w (J 103 w + 1)) 108 h (J 108 h + 1)) 107 h (uI (uI J 103 w (J 103 w + 1)) 108 h (J 108 h + 1) 107 h - (if s0 = 0 then (1 : Int32) else 2)) 106 w = J 106 w := by
      rw [uI_ne (by decide), uI_ne (by decide), uI_ne (by decide)]
    have e : (if s0 = (0 : Int32) then (if zib wi 5 = true then some (J 106 w) else none) else (if zib wi 5 = true then (if J 106 w = 0 then some (1 : Int32) else some (J 106 w)) else none)) = some (if s0 = 0 then J 106 w else if J 106 w = 0 then 1 else J 106 w) := by
      rw [if_pos hz5, if_pos hz5]
      repeat' split
      all_goals rfl
    rw [x, e, zb_some, if_pos hz5, zl_eq, uI_ne (show 107 ≠ 106 by decide), uI_at, uI_ne (show 109 ≠ 106 by decide), uI_ne (show 109 ≠ 107 by decide), uI_ne (show 109 ≠ 108 by decide), uI_ne (show 109 ≠ 103 by decide), uI_ne (show 107 ≠ 108 by decide), uI_ne (show 107 ≠ 103 by decide), zl_eq, zl_eq]
  unfold f12_lifts f12_lifts_B101
  rw [if_pos hz5, n1, zl_eq, ea, if_pos hz9, n2, uI_ne (show 107 ≠ 103 by decide), if_neg h0, uI_ne (show 108 ≠ 103 by decide), zl_eq, uI_ne (show 83 ≠ 108 by decide), uI_ne (show 83 ≠ 103 by decide), uI_ne (show 107 ≠ 108 by decide), uI_ne (show 107 ≠ 103 by decide), uI_at, h2]
  by_cases c1 : J 83 h = 0
  · rw [if_pos c1, if_pos c1]
    exact B 0
  rw [if_neg c1, if_neg c1]
  have wi9 : f12_within (J 83 h) 1 9 = some (J 83 h) := by
    have c1' := c1
    rw [zeq_iff, z0] at c1'
    unfold f12_within
    rw [if_pos (by rw [zle_iff, z1]; omega), if_pos (by rw [zle_iff, z9]; omega), zl_eq]
  by_cases c2 : J 107 h < 2
  · rw [if_pos c2, if_pos c2]
    by_cases c3 : (J 108 h + 1) - (J 108 h + 1) / (J 83 h) * (J 83 h) = 0
    · rw [if_pos c3]
      exact B 0
    · rw [if_neg c3]
      exact B 0
  · rw [if_neg c2, if_neg c2, wi9, zb_some, if_pos c1]
    by_cases c3 : (J 108 h + 1) - (J 108 h + 1) / (J 83 h) * (J 83 h) = 0
    · rw [if_pos c3, if_pos c3]
      exact B 1
    · rw [if_neg c3, if_neg c3]
      exact B 0

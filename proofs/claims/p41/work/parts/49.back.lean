/-! pure part: back -/
theorem g11_backL13 {n : Nat} {kd : zMK} (k : zMI → zMR → Option (Int32 × zMI × zMR)) {R : zMR} : ∀ (d q : Nat) (i : Int32) (I : zMI), i.toInt + d = 9 → 0 ≤ i.toInt → d < q →
    ∃ J, f11_back_L13 n kd k q i I R = k J R ∧ (∀ j, j < 9 → J 33 j = (if i.toInt.toNat ≤ j then I 64 j else I 33 j) ∧ J 34 j = (if i.toInt.toNat ≤ j then I 65 j else I 34 j)) ∧ ∀ b, b ≠ 33 → b ≠ 34 → J b = I b := by
  intro d
  induction d with
  | zero =>
    intro q i I e h0 hq
    obtain ⟨q, rfl⟩ : ∃ p, q = p + 1 := ⟨q - 1, by omega⟩
    refine ⟨I, ?_, fun j hj => by rw [if_neg (by omega), if_neg (by omega)]; exact ⟨rfl, rfl⟩, fun _ _ _ => rfl⟩
    unfold f11_back_L13
    rw [if_pos (by rw [zle_iff, z9]; omega)]
  | succ d ih =>
    intro q i I e h0 hq
    obtain ⟨q, rfl⟩ : ∃ p, q = p + 1 := ⟨q - 1, by omega⟩
    have e1 := zsucc (N := 9) (i := i) (d := d) (by rw [z9]; omega)
    obtain ⟨J, j1, j2, j3⟩ := ih q (i + 1) (uI (uI I 33 i.toNatClampNeg (I 64 i.toNatClampNeg)) 34 i.toNatClampNeg (I 65 i.toNatClampNeg)) (by omega) (by omega) (by omega)
    refine ⟨J, ?_, fun j hj => ?_, fun b h1 h2 => by rw [j3 b h1 h2, uI_ne h2, uI_ne h1]⟩
    · unfold f11_back_L13
      rw [if_neg (by rw [zle_iff, z9]; omega), if_pos (zib_ok h0 (by omega)), zl_eq, zl_eq, uI_ne (show (65 : Nat) ≠ 33 by decide)]
      exact j1
    · obtain ⟨w1, w2⟩ := j2 j hj
      rw [w1, w2, e1]
      by_cases q : j = i.toNatClampNeg
      · have q' := q
        rw [zcl_iff] at q'
        have c1 : ¬ (i.toInt + 1).toNat ≤ j := by omega
        have c2 : i.toInt.toNat ≤ j := by omega
        simp only [if_neg c1, if_pos c2]
        rw [q]
        simp (disch := omega) only [uI_ne, uI_at, and_self]
      · have q' := q
        rw [zcl_iff] at q'
        simp (disch := omega) only [uI_ne, uI_off]
        by_cases c : i.toInt.toNat ≤ j
        · have c1 : (i.toInt + 1).toNat ≤ j := by omega
          simp only [if_pos c1, if_pos c, and_self]
        · have c1 : ¬ (i.toInt + 1).toNat ≤ j := by omega
          simp only [if_neg c1, if_neg c, and_self]
def zBw (n : Nat) (kd : zMK) (c : Nat) (I : zMI) (R : zMR) : Prop := ∀ w, w < c → ∃ a, R 35 w = some a ∧ 114 ≤ a ∧ zWkB n kd a = true ∧ (kd a).1 ≠ 0 ∧ (kd a).1 ≠ 19 ∧ (I a 0).toInt = w
theorem uR_ne {R : zMR} {a b k : Nat} {r : Option Nat} (h : b ≠ a) : uR R a k r b = R b := if_neg h
theorem uR_at {R : zMR} {a k : Nat} {r : Option Nat} : uR R a k r a k = r := by
  unfold uR va_up
  rw [if_pos rfl, if_pos rfl]
theorem uR_off {R : zMR} {a k j : Nat} {r : Option Nat} (h : j ≠ k) : uR R a k r a j = R a j := by
  unfold uR va_up
  rw [if_pos rfl, if_neg h]
theorem g11_backL51 {n : Nat} {kd : zMK} (k : zMI → zMR → Option (Int32 × zMI × zMR)) {c : Int32} (hc : 0 ≤ c.toInt ∧ c.toInt ≤ 5) : ∀ (d q : Nat) (i : Int32) (I : zMI) (R : zMR), i.toInt + d = 5 → 0 ≤ i.toInt → d < q → I 32 18 = c → zBw n kd c.toInt.toNat I R →
    ∃ J R', f11_back_L51 n kd k q i I R = k J R' ∧ (∀ w, w < c.toInt.toNat → R' 35 w = R 35 w) ∧ (∀ b, b ≠ 35 → R' b = R b) ∧ (∀ w a, w < c.toInt.toNat → R 35 w = some a → J a 2 = if i.toInt.toNat ≤ w then I 66 w else I a 2) ∧ (∀ b j, j ≠ 2 → J b j = I b j) ∧ (∀ b, b < 114 → J b = I b) ∧ ∀ b, (kd b).1 = 0 ∨ (kd b).1 = 19 → J b = I b := by
  have z5 : (5 : Int32).toInt = 5 := rfl
  intro d
  induction d with
  | zero =>
    intro q i I R e h0 hq e4 hB
    obtain ⟨q, rfl⟩ : ∃ p, q = p + 1 := ⟨q - 1, by omega⟩
    refine ⟨I, R, ?_, fun _ _ => rfl, fun _ _ => rfl, fun j a hj _ => by rw [if_neg (by omega)], fun _ _ _ => rfl, fun _ _ => rfl, fun _ _ => rfl⟩
    unfold f11_back_L51
    rw [if_pos (by rw [zle_iff, z5]; omega)]
  | succ d ih =>
    intro q i I R e h0 hq e4 hB
    obtain ⟨q, rfl⟩ : ∃ p, q = p + 1 := ⟨q - 1, by omega⟩
    have e1 := zsucc (N := 5) (i := i) (d := d) (by rw [z5]; omega)
    by_cases ci : i.toInt < c.toInt
    · obtain ⟨a, q1, q2, q3, q4, q5, q6⟩ := hB i.toNatClampNeg (by rw [zcl_iff]; omega)
      obtain ⟨J, R', j1, j2, j3, j4, j5, j6, j7⟩ := ih q (i + 1) (uI I a 2 (I 66 i.toNatClampNeg)) R (by omega) (by omega) (by omega) (by rw [uI_ne (by omega)]; exact e4) (fun w hw => by
        obtain ⟨b, w1, w2, w3, w4, w5, w6⟩ := hB w hw
        refine ⟨b, w1, w2, w3, w4, w5, ?_⟩
        by_cases eb : b = a
        · rw [eb, uI_off (by decide), ← eb]
          exact w6
        · rw [uI_ne eb]
          exact w6)
      refine ⟨J, R', ?_, j2, j3, fun w b hw hb => ?_, fun b j hj => ?_, fun b hb => by rw [j6 b hb, uI_ne (by omega)], fun b hb => by rw [j7 b hb, uI_ne (fun x => by rw [x] at hb; omega)]⟩
      · unfold f11_back_L51 f11_back_B95
        rw [if_neg (by rw [zle_iff, z5]; omega), if_pos (zib_ok h0 (by omega)), if_pos (by rw [zlt_iff, e4]; exact ci), q1, zm_some, if_pos q3, zl_eq]
        exact j1
      · rw [j4 w b hw hb, e1]
        by_cases q : w = i.toNatClampNeg
        · rw [q, q1] at hb
          cases hb
          have q' := q
          rw [zcl_iff] at q'
          rw [if_neg (by omega), if_pos (by omega), uI_at, q]
        · have q' := q
          rw [zcl_iff] at q'
          obtain ⟨b', w1, w2, w3, w4, w5, w6⟩ := hB w hw
          cases hb.symm.trans w1
          have eb : b ≠ a := fun x => by
            rw [x, q6] at w6
            omega
          rw [uI_ne eb, uI_ne (show 66 ≠ a by omega)]
          by_cases cw : i.toInt.toNat ≤ w
          · rw [if_pos (by omega), if_pos cw]
          · rw [if_neg (by omega), if_neg cw]
      · rw [j5 b j hj]
        by_cases eb : b = a
        · rw [eb, uI_off hj]
        · rw [uI_ne eb]
    · obtain ⟨J, R', j1, j2, j3, j4, j5, j6, j7⟩ := ih q (i + 1) I (uR R 35 i.toNatClampNeg none) (by omega) (by omega) (by omega) e4 (fun w hw => by
        obtain ⟨b, w1, w2⟩ := hB w hw
        refine ⟨b, ?_, w2⟩
        rw [uR_off (by rw [zcl_iff]; omega)]
        exact w1)
      refine ⟨J, R', ?_, fun w hw => ?_, fun b hb => by rw [j3 b hb, uR_ne hb], fun w b hw hb => ?_, j5, j6, j7⟩
      · unfold f11_back_L51 f11_back_B95
        rw [if_neg (by rw [zle_iff, z5]; omega), if_pos (zib_ok h0 (by omega)), if_neg (by rw [zlt_iff, e4]; exact ci), zl_eq]
        exact j1
      · rw [j2 w hw, uR_off (by rw [zcl_iff]; omega)]
      · rw [j4 w b hw (by rw [uR_off (by rw [zcl_iff]; omega)]; exact hb), e1, if_neg (by omega), if_neg (by omega)]
theorem g12_backL36 (k : zMI → Option (Int32 × zMI)) : ∀ (d q : Nat) (i : Int32) (I : zMI), i.toInt + d = 9 → 0 ≤ i.toInt → d < q →
    ∃ J, f12_back_L36 k q i I = k J ∧ (∀ j, j < 9 → J 82 j = (if i.toInt.toNat ≤ j then I 90 j else I 82 j) ∧ J 83 j = (if i.toInt.toNat ≤ j then I 90 (9 + j) else I 83 j)) ∧ ∀ b, b ≠ 82 → b ≠ 83 → J b = I b := by
  intro d
  induction d with
  | zero =>
    intro q i I e h0 hq
    obtain ⟨q, rfl⟩ : ∃ p, q = p + 1 := ⟨q - 1, by omega⟩
    refine ⟨I, ?_, fun j hj => by rw [if_neg (by omega), if_neg (by omega)]; exact ⟨rfl, rfl⟩, fun _ _ _ => rfl⟩
    unfold f12_back_L36
    rw [if_pos (by rw [zle_iff, z9]; omega)]
  | succ d ih =>
    intro q i I e h0 hq
    obtain ⟨q, rfl⟩ : ∃ p, q = p + 1 := ⟨q - 1, by omega⟩
    have e1 := zsucc (N := 9) (i := i) (d := d) (by rw [z9]; omega)
    have e9 : ((9 : Int32) + i).toInt = 9 + i.toInt := by rw [zadd (by rw [z9]; omega) (by rw [z9]; omega), z9]
    have en : ((9 : Int32) + i).toNatClampNeg = 9 + i.toNatClampNeg := by rw [zcl_iff, zcl_iff, e9]; omega
    obtain ⟨J, j1, j2, j3⟩ := ih q (i + 1) (uI (uI I 82 i.toNatClampNeg (I 90 i.toNatClampNeg)) 83 i.toNatClampNeg (I 90 (9 + i.toNatClampNeg))) (by omega) (by omega) (by omega)
    refine ⟨J, ?_, fun j hj => ?_, fun b h1 h2 => by rw [j3 b h1 h2, uI_ne h2, uI_ne h1]⟩
    · unfold f12_back_L36
      rw [if_neg (by rw [zle_iff, z9]; omega), if_pos (zib_ok h0 (by omega)), if_pos (zib_ok h0 (by omega)), zl_eq, if_pos (zib_ok (by omega) (by omega)), zl_eq, uI_ne (show (90 : Nat) ≠ 82 by decide), en]
      exact j1
    · obtain ⟨w1, w2⟩ := j2 j hj
      rw [w1, w2, e1]
      by_cases q : j = i.toNatClampNeg
      · have q' := q
        rw [zcl_iff] at q'
        have c1 : ¬ (i.toInt + 1).toNat ≤ j := by omega
        have c2 : i.toInt.toNat ≤ j := by omega
        simp only [if_neg c1, if_pos c2]
        rw [q]
        simp (disch := omega) only [uI_ne, uI_at, and_self]
      · have q' := q
        rw [zcl_iff] at q'
        simp (disch := omega) only [uI_ne, uI_off]
        by_cases c : i.toInt.toNat ≤ j
        · have c1 : (i.toInt + 1).toNat ≤ j := by omega
          simp only [if_pos c1, if_pos c, and_self]
        · have c1 : ¬ (i.toInt + 1).toNat ≤ j := by omega
          simp only [if_neg c1, if_neg c, and_self]
theorem g12_backL77 : ∀ (d q : Nat) (i : Int32) (I : zMI), i.toInt + d = 5 → 0 ≤ i.toInt → d < q →
    ∃ J, f12_back_L77 q i I = some (I 81 3, J) ∧ (∀ j, j < 5 → J 86 j = (if i.toInt.toNat ≤ j then I 90 (18 + j) else I 86 j)) ∧ ∀ b, b ≠ 86 → J b = I b := by
  have z5 : (5 : Int32).toInt = 5 := rfl
  have z18 : (18 : Int32).toInt = 18 := rfl
  intro d
  induction d with
  | zero =>
    intro q i I e h0 hq
    obtain ⟨q, rfl⟩ : ∃ p, q = p + 1 := ⟨q - 1, by omega⟩
    refine ⟨I, ?_, fun j hj => by rw [if_neg (by omega)], fun _ _ => rfl⟩
    unfold f12_back_L77
    rw [if_pos (by rw [zle_iff, z5]; omega)]
  | succ d ih =>
    intro q i I e h0 hq
    obtain ⟨q, rfl⟩ : ∃ p, q = p + 1 := ⟨q - 1, by omega⟩
    have e1 := zsucc (N := 5) (i := i) (d := d) (by rw [z5]; omega)
    have e9 : ((18 : Int32) + i).toInt = 18 + i.toInt := by rw [zadd (by rw [z18]; omega) (by rw [z18]; omega), z18]
    have en : ((18 : Int32) + i).toNatClampNeg = 18 + i.toNatClampNeg := by rw [zcl_iff, zcl_iff, e9]; omega
    obtain ⟨J, j1, j2, j3⟩ := ih q (i + 1) (uI I 86 i.toNatClampNeg (I 90 (18 + i.toNatClampNeg))) (by omega) (by omega) (by omega)
    rw [uI_ne (show (81 : Nat) ≠ 86 by decide)] at j1
    refine ⟨J, ?_, fun j hj => ?_, fun b h1 => by rw [j3 b h1, uI_ne h1]⟩
    · unfold f12_back_L77
      rw [if_neg (by rw [zle_iff, z5]; omega), if_pos (zib_ok (by omega) (by omega)), if_pos (zib_ok h0 (by omega)), zl_eq, en]
      exact j1
    · rw [j2 j hj, e1]
      by_cases q : j = i.toNatClampNeg
      · have q' := q
        rw [zcl_iff] at q'
        rw [if_neg (by omega), if_pos (by omega), q, uI_at]
      · have q' := q
        rw [zcl_iff] at q'
        rw [uI_off (by omega), uI_ne (show (90 : Nat) ≠ 86 by decide)]
        by_cases c : i.toInt.toNat ≤ j
        · rw [if_pos (by omega), if_pos c]
        · rw [if_neg (by omega), if_neg c]

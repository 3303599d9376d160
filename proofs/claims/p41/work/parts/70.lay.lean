/-! pure part: a going is laid -/
/-- the reference's side, begun -/
def zMLq (J J1 : zMI) : Prop := (∀ w, w < 5 → J1 100 w = J 86 w ∧ J1 101 w = 1 ∧ J1 102 w = 0 ∧ J1 103 w = 0 ∧ J1 104 w = 0 ∧ J1 105 w = 0 ∧ J1 106 w = 0) ∧ (∀ h, h < 9 → J1 107 h = J 82 h ∧ J1 108 h = 0 ∧ J1 109 h = -1) ∧ J1 81 45 = 0 ∧ J1 81 47 = 0 ∧ J1 81 48 = -1 ∧ (∀ j, j ≠ 45 → j ≠ 47 → j ≠ 48 → J1 81 j = J 81 j) ∧ ∀ b, b ≠ 81 → (b < 100 ∨ 109 < b) → J1 b = J b
theorem g12_beginsL2 (k : zMI → Option zMI) : ∀ (d q : Nat) (i : Int32) (J : zMI), i.toInt + d = 5 → 0 ≤ i.toInt → d < q →
    ∃ J1, f12_begins_L2 k q i J = k J1 ∧ (∀ w, i.toInt.toNat ≤ w → w < 5 → J1 100 w = J 86 w ∧ J1 101 w = 1 ∧ J1 102 w = 0 ∧ J1 103 w = 0 ∧ J1 104 w = 0 ∧ J1 105 w = 0 ∧ J1 106 w = 0) ∧ (∀ b w, w < i.toInt.toNat → J1 b w = J b w) ∧ ∀ b, b < 100 ∨ 106 < b → J1 b = J b := by
  intro d
  induction d with
  | zero =>
    intro q i J e h0 hq
    obtain ⟨q, rfl⟩ : ∃ p, q = p + 1 := ⟨q - 1, by omega⟩
    refine ⟨J, ?_, fun w x y => by omega, fun _ _ _ => rfl, fun _ _ => rfl⟩
    unfold f12_begins_L2
    rw [if_pos (by rw [zle_iff, zn5i]; omega)]
  | succ d ih =>
    intro q i J e h0 hq
    obtain ⟨q, rfl⟩ : ∃ p, q = p + 1 := ⟨q - 1, by omega⟩
    have e1 := zsucc (N := 5) (i := i) (d := d) (by rw [zn5i]; omega)
    obtain ⟨K, hK⟩ : ∃ K, uI (uI (uI (uI (uI (uI (uI J 100 i.toInt.toNat (J 86 i.toInt.toNat)) 101 i.toInt.toNat 1) 102 i.toInt.toNat 0) 103 i.toInt.toNat 0) 104 i.toInt.toNat 0) 105 i.toInt.toNat 0) 106 i.toInt.toNat 0 = K := ⟨_, rfl⟩
    obtain ⟨J1, j1, j2, j3, j4⟩ := ih q (i + 1) K (by omega) (by omega) (by omega)
    have K_ne : ∀ b, b < 100 ∨ 106 < b → K b = J b := fun b hb => by
      rw [← hK]
      simp (disch := omega) only [uI_ne]
    have K_off : ∀ b w, w ≠ i.toInt.toNat → K b w = J b w := fun b w hw => by
      rw [← hK]
      by_cases c6 : b = 106
      · rw [c6]
        simp (disch := omega) only [uI_ne, uI_off]
      rw [uI_ne c6]
      by_cases c5 : b = 105
      · rw [c5]
        simp (disch := omega) only [uI_ne, uI_off]
      rw [uI_ne c5]
      by_cases c4 : b = 104
      · rw [c4]
        simp (disch := omega) only [uI_ne, uI_off]
      rw [uI_ne c4]
      by_cases c3 : b = 103
      · rw [c3]
        simp (disch := omega) only [uI_ne, uI_off]
      rw [uI_ne c3]
      by_cases c2 : b = 102
      · rw [c2]
        simp (disch := omega) only [uI_ne, uI_off]
      rw [uI_ne c2]
      by_cases c1 : b = 101
      · rw [c1]
        simp (disch := omega) only [uI_ne, uI_off]
      rw [uI_ne c1]
      by_cases c0 : b = 100
      · rw [c0]
        simp (disch := omega) only [uI_off]
      rw [uI_ne c0]
    refine ⟨J1, ?_, fun w x y => ?_, fun b w x => by rw [j3 b w (by omega), K_off b w (by omega)], fun b hb => by rw [j4 b hb, K_ne b hb]⟩
    · unfold f12_begins_L2
      rw [if_neg (by rw [zle_iff, zn5i]; omega), if_pos (zib_ok h0 (by omega)), zcl_iff, zl_eq, zl_eq, zl_eq, zl_eq, zl_eq, zl_eq, zl_eq, hK]
      exact j1
    · by_cases c : w = i.toInt.toNat
      · rw [j3 100 w (by omega), j3 101 w (by omega), j3 102 w (by omega), j3 103 w (by omega), j3 104 w (by omega), j3 105 w (by omega), j3 106 w (by omega), c, ← hK]
        simp (disch := omega) only [uI_ne, uI_at, and_self]
      · have := j2 w (by omega) y
        rw [K_off 86 w c] at this
        exact this
theorem g12_beginsL69 (k : zMI → Option zMI) : ∀ (d q : Nat) (i : Int32) (J : zMI), i.toInt + d = 9 → 0 ≤ i.toInt → d < q →
    ∃ J1, f12_begins_L69 k q i J = k J1 ∧ (∀ h, i.toInt.toNat ≤ h → h < 9 → J1 107 h = J 82 h ∧ J1 108 h = 0 ∧ J1 109 h = -1) ∧ (∀ b h, h < i.toInt.toNat → J1 b h = J b h) ∧ ∀ b, b < 107 ∨ 109 < b → J1 b = J b := by
  intro d
  induction d with
  | zero =>
    intro q i J e h0 hq
    obtain ⟨q, rfl⟩ : ∃ p, q = p + 1 := ⟨q - 1, by omega⟩
    refine ⟨J, ?_, fun w x y => by omega, fun _ _ _ => rfl, fun _ _ => rfl⟩
    unfold f12_begins_L69
    rw [if_pos (by rw [zle_iff, z9]; omega)]
  | succ d ih =>
    intro q i J e h0 hq
    obtain ⟨q, rfl⟩ : ∃ p, q = p + 1 := ⟨q - 1, by omega⟩
    have e1 := zsucc (N := 9) (i := i) (d := d) (by rw [z9]; omega)
    obtain ⟨K, hK⟩ : ∃ K, uI (uI (uI J 107 i.toInt.toNat (J 82 i.toInt.toNat)) 108 i.toInt.toNat 0) 109 i.toInt.toNat (-1) = K := ⟨_, rfl⟩
    obtain ⟨J1, j1, j2, j3, j4⟩ := ih q (i + 1) K (by omega) (by omega) (by omega)
    have K_ne : ∀ b, b < 107 ∨ 109 < b → K b = J b := fun b hb => by
      rw [← hK]
      simp (disch := omega) only [uI_ne]
    have K_off : ∀ b w, w ≠ i.toInt.toNat → K b w = J b w := fun b w hw => by
      rw [← hK]
      by_cases c6 : b = 109
      · rw [c6]
        simp (disch := omega) only [uI_ne, uI_off]
      rw [uI_ne c6]
      by_cases c5 : b = 108
      · rw [c5]
        simp (disch := omega) only [uI_ne, uI_off]
      rw [uI_ne c5]
      by_cases c4 : b = 107
      · rw [c4]
        simp (disch := omega) only [uI_off]
      rw [uI_ne c4]
    refine ⟨J1, ?_, fun w x y => ?_, fun b w x => by rw [j3 b w (by omega), K_off b w (by omega)], fun b hb => by rw [j4 b hb, K_ne b hb]⟩
    · unfold f12_begins_L69
      rw [if_neg (by rw [zle_iff, z9]; omega), if_pos (zib_ok h0 (by omega)), zcl_iff, zl_eq, zl_eq, zl_eq, hK]
      exact j1
    · by_cases c : w = i.toInt.toNat
      · rw [j3 107 w (by omega), j3 108 w (by omega), j3 109 w (by omega), c, ← hK]
        simp (disch := omega) only [uI_ne, uI_at, and_self]
      · have := j2 w (by omega) y
        rw [K_off 82 w c] at this
        exact this
theorem g12_begins (J : zMI) : ∃ J1, f12_begins J = some J1 ∧ zMLq J J1 := by
  obtain ⟨K1, a1, a2, a3, a4⟩ := g12_beginsL2 f12_begins_B67 5 zF 0 J (by rw [z0]; rfl) (by rw [z0]; omega) (by unfold zF; omega)
  obtain ⟨K2, b1, b2, b3, b4⟩ := g12_beginsL69 f12_begins_B107 9 zF 0 K1 (by rw [z0]; rfl) (by rw [z0]; omega) (by unfold zF; omega)
  refine ⟨uI (uI (uI K2 81 45 0) 81 47 0) 81 48 (-1), ?_, fun w hw => ?_, fun h hh => ?_, ?_, ?_, ?_, fun j x y z => ?_, fun b x y => ?_⟩
  · unfold f12_begins
    rw [a1]
    unfold f12_begins_B67
    rw [b1]
    rfl
  · simp (disch := omega) only [uI_ne]
    rw [b4 100 (by decide), b4 101 (by decide), b4 102 (by decide), b4 103 (by decide), b4 104 (by decide), b4 105 (by decide), b4 106 (by decide)]
    exact a2 w (by rw [z0]; omega) hw
  · simp (disch := omega) only [uI_ne]
    have := b2 h (by rw [z0]; omega) hh
    rw [a4 82 (by decide)] at this
    exact this
  · simp (disch := omega) only [uI_off, uI_at]
  · simp (disch := omega) only [uI_off, uI_at]
  · rw [uI_at]
  · rw [uI_off z, uI_off y, uI_off x, b4 81 (by decide), a4 81 (by decide)]
  · rw [uI_ne x, uI_ne x, uI_ne x, b4 b (by omega), a4 b (by omega)]
/-- the order of all but one: b is the one (5: none) -/
def zob (b k : Nat) : Nat := if k < b then k else k + 1
theorem g12_ordersL {b : Nat} {bt cn : Int32} (hc : 0 ≤ cn.toInt ∧ cn.toInt ≤ 5) (hb : ∀ x : Int32, 0 ≤ x.toInt → x.toInt < cn.toInt → (x = bt ↔ x.toInt = (b : Int))) : ∀ (d q : Nat) (i : Int32) (J : zMI), i.toInt + d = cn.toInt → 0 ≤ i.toInt → d < q → J 81 3 = cn → (J 81 34).toInt = i.toInt - (if (b : Int) < i.toInt then 1 else 0) → (∀ k : Nat, (k : Int) < (J 81 34).toInt → (J 99 k).toInt = (zob b k : Nat)) →
    ∃ J', f12_orders_L7 q bt i J = some J' ∧ (J' 81 34).toInt = cn.toInt - (if (b : Int) < cn.toInt then 1 else 0) ∧ (∀ k : Nat, (k : Int) < (J' 81 34).toInt → (J' 99 k).toInt = (zob b k : Nat)) ∧ (∀ j, j ≠ 34 → J' 81 j = J 81 j) ∧ ∀ c, c ≠ 81 → c ≠ 99 → J' c = J c := by
  intro d
  induction d with
  | zero =>
    intro q i J e h0 hq e3 eg eo
    obtain ⟨q, rfl⟩ : ∃ p, q = p + 1 := ⟨q - 1, by omega⟩
    have ei : i.toInt = cn.toInt := by omega
    refine ⟨J, ?_, by rw [← ei]; exact eg, eo, fun _ _ => rfl, fun _ _ _ => rfl⟩
    unfold f12_orders_L7
    rw [e3, if_pos (by rw [zle_iff]; omega)]
  | succ d ih =>
    intro q i J e h0 hq e3 eg eo
    obtain ⟨q, rfl⟩ : ∃ p, q = p + 1 := ⟨q - 1, by omega⟩
    have e1 := zsucc e
    have hbi := hb i h0 (by omega)
    by_cases c : i = bt
    · have cb := hbi.mp c
      obtain ⟨J', j1, j2, j3, j4, j5⟩ := ih q (i + 1) J (by omega) (by omega) (by omega) e3 (by rw [eg, e1, if_neg (by omega), if_pos (by omega)]; omega) eo
      refine ⟨J', ?_, j2, j3, j4, j5⟩
      unfold f12_orders_L7 f12_orders_B40
      rw [e3, if_neg (by rw [zle_iff]; omega), if_pos c]
      exact j1
    · have cb : ¬ i.toInt = (b : Int) := fun x => c (hbi.mpr x)
      have g0 : 0 ≤ (J 81 34).toInt ∧ (J 81 34).toInt ≤ 4 := by
        rw [eg]
        split <;> omega
      have eg1 : (J 81 34 + 1).toInt = (J 81 34).toInt + 1 := by rw [zadd (by rw [z1]; omega) (by rw [z1]; omega), z1]
      obtain ⟨K, hK⟩ : ∃ K, uI (uI J 99 (J 81 34).toInt.toNat i) 81 34 (J 81 34 + 1) = K := ⟨_, rfl⟩
      have K34 : K 81 34 = J 81 34 + 1 := by rw [← hK, uI_at]
      have K81 : ∀ j, j ≠ 34 → K 81 j = J 81 j := fun j hj => by rw [← hK, uI_off hj, uI_ne (by decide)]
      obtain ⟨J', j1, j2, j3, j4, j5⟩ := ih q (i + 1) K (by omega) (by omega) (by omega) (by rw [K81 3 (by decide)]; exact e3) (by
        rw [K34, eg1, eg, e1]
        by_cases x : (b : Int) < i.toInt
        · rw [if_pos x, if_pos (by omega)]
          omega
        · rw [if_neg x, if_neg (by omega)]
          omega) (fun k hk => by
        rw [K34, eg1] at hk
        rw [← hK, uI_ne (by decide)]
        by_cases x : k = (J 81 34).toInt.toNat
        · rw [x, uI_at]
          unfold zob
          rw [eg]
          by_cases y : (b : Int) < i.toInt
          · rw [if_pos y, if_neg (by omega)]
            omega
          · rw [if_neg y, if_pos (by omega)]
            omega
        · rw [uI_off x]
          exact eo k (by omega))
      refine ⟨J', ?_, j2, j3, fun j hj => by rw [j4 j hj, K81 j hj], fun c x y => by rw [j5 c x y, ← hK, uI_ne x, uI_ne y]⟩
      unfold f12_orders_L7 f12_orders_B40
      rw [e3, if_neg (by rw [zle_iff]; omega), if_neg c, if_pos (zib_ok g0.1 (by omega)), zcl_iff, zl_eq, uI_ne (show 81 ≠ 99 by decide), zl_eq, hK]
      exact j1
theorem g12_orders {b : Nat} {bt : Int32} {J : zMI} (hc : 0 ≤ (J 81 3).toInt ∧ (J 81 3).toInt ≤ 5) (hb : ∀ x : Int32, 0 ≤ x.toInt → x.toInt < (J 81 3).toInt → (x = bt ↔ x.toInt = (b : Int))) :
    ∃ J', f12_orders bt J = some J' ∧ (J' 81 34).toInt = (J 81 3).toInt - (if (b : Int) < (J 81 3).toInt then 1 else 0) ∧ (∀ k : Nat, (k : Int) < (J' 81 34).toInt → (J' 99 k).toInt = (zob b k : Nat)) ∧ (∀ j, j ≠ 34 → J' 81 j = J 81 j) ∧ ∀ c, c ≠ 81 → c ≠ 99 → J' c = J c := by
  have K34 : uI J 81 34 0 81 34 = 0 := uI_at
  have K3 : uI J 81 34 0 81 3 = J 81 3 := uI_off (by decide)
  obtain ⟨J', j1, j2, j3, j4, j5⟩ := g12_ordersL (b := b) (bt := bt) (cn := J 81 3) hc hb (J 81 3).toInt.toNat zF 0 (uI J 81 34 0) (by rw [z0]; omega) (by rw [z0]; omega) (by unfold zF; omega) K3 (by rw [K34, z0, if_neg (by omega)]; rfl) (fun k hk => by rw [K34, z0] at hk; omega)
  refine ⟨J', ?_, j2, j3, fun j hj => by rw [j4 j hj, uI_off hj], fun c x y => by rw [j5 c x y, uI_ne x]⟩
  unfold f12_orders
  rw [zl_eq]
  exact j1

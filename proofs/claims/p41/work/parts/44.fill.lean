/-! pure part: rows are filled -/
theorem gJ7_fillL {n a : Nat} {kd : zMK} {v l3 : Int32} (hk : zKdB n kd a 0 = true) (hN : l3.toInt = ((kd a).2 : Int)) : ∀ (d q : Nat) (i : Int32) (I : zMI), i.toInt + d = l3.toInt → 0 ≤ i.toInt → d < q →
    ∃ J, fJ7_fill_53178_L5 n kd q a v i l3 I = some J ∧ (∀ k, J a k = if i.toInt.toNat ≤ k ∧ k < (kd a).2 then v else I a k) ∧ ∀ b, b ≠ a → J b = I b := by
  intro d
  induction d with
  | zero =>
    intro q i I e h0 hq
    obtain ⟨q, rfl⟩ : ∃ p, q = p + 1 := ⟨q - 1, by omega⟩
    refine ⟨I, ?_, fun k => by rw [if_neg (by omega)], fun _ _ => rfl⟩
    unfold fJ7_fill_53178_L5
    rw [if_pos (by rw [zle_iff]; omega)]
  | succ d ih =>
    intro q i I e h0 hq
    obtain ⟨q, rfl⟩ : ∃ p, q = p + 1 := ⟨q - 1, by omega⟩
    have hr := zrange l3
    have e1 : (i + 1).toInt = i.toInt + 1 := zadd (by rw [z1]; omega) (by rw [z1]; omega)
    obtain ⟨J, j1, j2, j3⟩ := ih q (i + 1) (uI I a i.toNatClampNeg v) (by omega) (by omega) (by omega)
    refine ⟨J, ?_, fun k => ?_, fun b hb => by rw [j3 b hb, uI_ne hb]⟩
    · unfold fJ7_fill_53178_L5
      rw [if_neg (by rw [zle_iff]; omega), if_pos hk, if_pos (zib_ok h0 (by omega)), zl_eq]
      exact j1
    · rw [j2 k, e1]
      by_cases q : k = i.toInt.toNat
      · rw [if_neg (by omega), if_pos (by omega), q, zcl_iff, uI_at]
      · rw [zcl_iff, uI_off q]
        by_cases q2 : i.toInt.toNat ≤ k ∧ k < (kd a).2
        · rw [if_pos (by omega), if_pos q2]
        · rw [if_neg (by omega), if_neg q2]
theorem g12_sheetL {s : Int32} (hs : 0 ≤ s.toInt ∧ s.toInt ≤ 3) : ∀ (d q : Nat) (i : Int32) (I : zMI), i.toInt + d = 40 → 0 ≤ i.toInt → d < q →
    ∃ J, f12_sheet_L70 q s i I = some (1, J) ∧ (∀ k, J 93 k = if 40 * s.toInt.toNat + i.toInt.toNat ≤ k ∧ k < 40 * s.toInt.toNat + 40 then 0 else I 93 k) ∧ ∀ b, b ≠ 93 → J b = I b := by
  have z40 : (40 : Int32).toInt = 40 := rfl
  have e40 : ((40 : Int32) * s).toInt = 40 * s.toInt := by
    rw [zmul (by rw [z40]; omega) (by rw [z40]; omega), z40]
  intro d
  induction d with
  | zero =>
    intro q i I e h0 hq
    obtain ⟨q, rfl⟩ : ∃ p, q = p + 1 := ⟨q - 1, by omega⟩
    refine ⟨I, ?_, fun k => by rw [if_neg (by omega)], fun _ _ => rfl⟩
    unfold f12_sheet_L70
    rw [if_pos (by rw [zle_iff, z40]; omega)]
  | succ d ih =>
    intro q i I e h0 hq
    obtain ⟨q, rfl⟩ : ∃ p, q = p + 1 := ⟨q - 1, by omega⟩
    have e1 : (i + 1).toInt = i.toInt + 1 := zadd (by rw [z1]; omega) (by rw [z1]; omega)
    have ei : ((40 : Int32) * s + i).toInt = 40 * s.toInt + i.toInt := by rw [zadd (by omega) (by omega), e40]
    obtain ⟨J, j1, j2, j3⟩ := ih q (i + 1) (uI I 93 ((40 : Int32) * s + i).toNatClampNeg 0) (by omega) (by omega) (by omega)
    refine ⟨J, ?_, fun k => ?_, fun b hb => by rw [j3 b hb, uI_ne hb]⟩
    · unfold f12_sheet_L70
      rw [if_neg (by rw [zle_iff, z40]; omega), if_pos (zib_ok (by omega) (by omega)), zl_eq]
      exact j1
    · rw [j2 k, e1, zcl_iff, ei]
      by_cases q : k = (40 * s.toInt + i.toInt).toNat
      · rw [if_neg (by omega), if_pos (by omega), q, uI_at]
      · rw [uI_off q]
        by_cases q2 : 40 * s.toInt.toNat + i.toInt.toNat ≤ k ∧ k < 40 * s.toInt.toNat + 40
        · rw [if_pos (by omega), if_pos q2]
        · rw [if_neg (by omega), if_neg q2]

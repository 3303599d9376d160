/-! pure part: a sheet becomes another -/
theorem zK_row {n : Nat} {kd : zMK} (hS : zSh n kd) {k : Nat} (hk : k < 4) : zKdB n kd (73 + 2 * k + 1) 0 = true ∧ (kd (73 + 2 * k + 1)).2 = 40 := by
  have e : kd (73 + 2 * k + 1) = (0, 40) := by
    rw [hS.2 _ (by omega) (by omega)]
    rcases (show k = 0 ∨ k = 1 ∨ k = 2 ∨ k = 3 by omega) with rfl | rfl | rfl | rfl <;> rfl
  refine ⟨?_, by rw [e]⟩
  unfold zKdB
  rw [e]
  have := hS.1
  simp
  omega
theorem g6_become {n : Nat} {kd : zMK} (hS : zSh n kd) {k : Nat} (hk : k < 4) (t z : Int32) (hz : 0 ≤ z.toInt ∧ z.toInt ≤ 40) (I : zMI) : ∃ J, f6_become n kd (73 + 2 * k) t z I = some J ∧ J (73 + 2 * k) 0 = t ∧ J (73 + 2 * k) 1 = z ∧ (∀ j, j < 40 → J (73 + 2 * k + 1) j = 0) ∧ ∀ b, b ≠ 73 + 2 * k → b ≠ 73 + 2 * k + 1 → J b = I b := by
  have z40 : (40 : Int32).toInt = 40 := rfl
  obtain ⟨hr, hl⟩ := zK_row hS hk
  have c1 : ¬ (40 : Int32) < z := by rw [zlt_iff, z40]; omega
  have c2 : (if (0 : Int32) < z then z else 0) = z := by
    by_cases q : (0 : Int32) < z
    · rw [if_pos q]
    · rw [if_neg q]
      rw [zlt_iff, z0] at q
      rw [zeq_iff, z0]
      omega
  obtain ⟨J, j1, j2, j3⟩ := gJ7_fillL (v := 0) (l3 := 40) hr (by rw [hl, z40]; rfl) 40 zF 0 (uI (uI I (73 + 2 * k) 0 t) (73 + 2 * k) 1 z) (by rw [z0, z40]; omega) (by rw [z0]; omega) (by unfold zF; omega)
  refine ⟨J, ?_, ?_, ?_, fun j hj => ?_, fun b h1 h2 => by rw [j3 b h2, uI_ne h1, uI_ne h1]⟩
  · unfold f6_become fJ7_fill_53178
    rw [if_pos (zSe_ok hk), zl_eq, zl_eq, zl_eq, zl_eq, if_neg c1, c2, if_pos hr, zl_eq, hl]
    rw [show Int32.ofNat 40 = (40 : Int32) from rfl, j1]
    rfl
  · rw [j3 _ (by omega), uI_off (by decide), uI_at]
  · rw [j3 _ (by omega), uI_at]
  · rw [j2 j, hl, if_pos (by rw [z0]; omega)]

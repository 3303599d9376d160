/-! pure part: sheet answers alike -/
theorem zsheet_ok {T : Nat → zMK → zMI → zMR → Prop} (hT : zTq T) {n : Nat} {kd : zMK} {I : zMI} {R : zMR} (hC : zC T n kd I R) {s t z y : Int32} (cs : 0 ≤ s.toInt ∧ s.toInt ≤ 3) (ct : -1 ≤ t.toInt ∧ t.toInt ≤ 2) (hy : (if t = -1 then (0 : Int32) else z) = y) (cy : 0 ≤ y.toInt ∧ y.toInt ≤ 40) :
    ∃ K, f6_become n kd (73 + 2 * s.toNatClampNeg) t y I = some K ∧ ∃ J, f12_sheet_B44 s t z K = some (1, J) ∧ zC T n kd J R := by
  have hk : s.toNatClampNeg < 4 := by rw [zcl_iff]; omega
  obtain ⟨K, k1, k2, k3, k4, k5⟩ := g6_become hC.1 hk t y cy I
  obtain ⟨J, j1, j2, j3⟩ := g12_sheetL cs 40 zF 0 (uI (uI K 91 s.toNatClampNeg t) 92 s.toNatClampNeg y) (by rw [z0]; rfl) (by rw [z0]; omega) (by unfold zF; omega)
  have hz : zib s 4 = true := zib_ok cs.1 (by omega)
  refine ⟨K, k1, J, ?_, ?_⟩
  · unfold f12_sheet_B44
    rw [if_pos hz, zl_eq, hy, zl_eq, zl_eq]
    exact j1
  · refine zC_sheets hT hC (fun a h1 h2 h3 h4 => by rw [j3 a h4, uI_ne h3, uI_ne h2, k5 a (by omega) (by omega)]) fun k hk4 => ?_
    obtain ⟨w1, w2, w3, w4, w5⟩ := hC.2.2.2.2.1 k hk4
    have J91 : J 91 = uI K 91 s.toNatClampNeg t 91 := by rw [j3 91 (by decide), uI_ne (by decide)]
    have J92 : J 92 = uI (uI K 91 s.toNatClampNeg t) 92 s.toNatClampNeg y 92 := j3 92 (by decide)
    have J73 : ∀ b, b ≠ 93 → b ≠ 92 → b ≠ 91 → J b = K b := fun b h1 h2 h3 => by rw [j3 b h1, uI_ne h2, uI_ne h3]
    have K93 : uI (uI K 91 s.toNatClampNeg t) 92 s.toNatClampNeg y 93 = I 93 := by rw [uI_ne (by decide), uI_ne (by decide), k5 93 (by omega) (by omega)]
    rw [J91, J92, J73 (73 + 2 * k) (by omega) (by omega) (by omega), J73 (74 + 2 * k) (by omega) (by omega) (by omega)]
    by_cases e : k = s.toNatClampNeg
    · subst e
      rw [k2, k3, uI_at, uI_at]
      refine ⟨rfl, rfl, ct, cy, fun j hj => ?_⟩
      rw [j2, if_pos (by rw [zcl_iff, z0]; omega), show 74 + 2 * s.toNatClampNeg = 73 + 2 * s.toNatClampNeg + 1 by omega]
      exact k4 j hj
    · rw [uI_off e, uI_off e, uI_ne (show (92 : Nat) ≠ 91 by decide), k5 91 (by omega) (by omega), k5 92 (by omega) (by omega), k5 (73 + 2 * k) (by omega) (by omega), k5 (74 + 2 * k) (by omega) (by omega)]
      refine ⟨w1, w2, w3, w4, fun j hj => ?_⟩
      rw [j2, K93, if_neg (by rw [zcl_iff] at e; rw [z0]; omega)]
      exact w5 j hj

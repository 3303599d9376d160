theorem zH33_ok {T : Nat → zMK → zMI → zMR → Prop} (hT : zTq T) : zH33 (zC T) := fun n kd I R s t z hC => by
  have z3 : (3 : Int32).toInt = 3 := rfl
  have zm1 : (-1 : Int32).toInt = -1 := rfl
  have z40 : (40 : Int32).toInt = 40 := rfl
  by_cases cs : 0 ≤ s.toInt ∧ s.toInt ≤ 3
  · have hk : s.toNatClampNeg < 4 := by rw [zcl_iff]; omega
    have hse := zSe_ok hk
    by_cases ct : -1 ≤ t.toInt ∧ t.toInt ≤ 2
    · have t1 : ¬ t < -1 := by rw [zlt_iff, zm1]; omega
      have t2 : t ≤ 2 := by rw [zle_iff, z2]; omega
      by_cases cm : t = -1
      · obtain ⟨K, k1, J, j1, hJ⟩ := zsheet_ok (z := z) (y := 0) hT hC cs ct (if_pos cm) (by rw [z0]; omega)
        refine ⟨(1, K), ?_, (1, J), ?_, rfl, hJ⟩
        · unfold f11_sheet
          rw [cm] at k1
          rw [g11_sheetOf, zb_some, if_pos cs, zm_some, if_neg t1, if_pos t2, if_pos cm, if_pos hse, k1, zb_some]
        · unfold f12_sheet f12_sheet_B32
          simp only [g12_in, zb_some, zB_0, z0, z2, z3, zm1]
          rw [if_neg (not_not_intro cs), if_neg (not_not_intro ct), if_pos cm, if_pos cm]
          exact j1
      · by_cases c40 : z ≤ 40
        · by_cases c0 : (0 : Int32) ≤ z
          · have r := (zle_iff _ _).mp c40
            have r0 := (zle_iff _ _).mp c0
            rw [z40] at r
            rw [z0] at r0
            obtain ⟨K, k1, J, j1, hJ⟩ := zsheet_ok (z := z) (y := z) hT hC cs ct (if_neg cm) ⟨r0, r⟩
            refine ⟨(1, K), ?_, (1, J), ?_, rfl, hJ⟩
            · unfold f11_sheet
              rw [g11_sheetOf, zb_some, if_pos cs, zm_some, if_neg t1, if_pos t2, if_neg cm, if_pos c40, if_pos c0, if_pos hse, k1, zb_some]
            · unfold f12_sheet f12_sheet_B32
              simp only [g12_in, zb_some, zB_0, z0, z2, z3, zm1]
              rw [if_neg (not_not_intro cs), if_neg (not_not_intro ct), if_neg cm, if_pos c40, if_neg cm, if_pos c0]
              exact j1
          · refine ⟨(-14, I), ?_, (-14, I), ?_, rfl, hC⟩
            · unfold f11_sheet
              rw [g11_sheetOf, zb_some, if_pos cs, zm_some, if_neg t1, if_pos t2, if_neg cm, if_pos c40, if_neg c0]
            · unfold f12_sheet f12_sheet_B32
              simp only [g12_in, zb_some, zB_0, z0, z2, z3, zm1]
              rw [if_neg (not_not_intro cs), if_neg (not_not_intro ct), if_neg cm, if_pos c40, if_neg cm, if_neg c0]
        · refine ⟨(-2, I), ?_, (-2, I), ?_, rfl, hC⟩
          · unfold f11_sheet
            rw [g11_sheetOf, zb_some, if_pos cs, zm_some, if_neg t1, if_pos t2, if_neg cm, if_neg c40]
          · unfold f12_sheet
            simp only [g12_in, zb_some, zB_0, z0, z2, z3, zm1]
            rw [if_neg (not_not_intro cs), if_neg (not_not_intro ct), if_neg cm, if_neg c40]
    · refine ⟨(-2, I), ?_, (-2, I), ?_, rfl, hC⟩
      · unfold f11_sheet
        rw [g11_sheetOf, zb_some, if_pos cs, zm_some]
        by_cases q : t < -1
        · rw [if_pos q]
        · have q2 : ¬ t ≤ 2 := by rw [zlt_iff, zm1] at q; rw [zle_iff, z2]; omega
          rw [if_neg q, if_neg q2]
      · unfold f12_sheet
        simp only [g12_in, zb_some, zB_0, z0, z2, z3, zm1]
        rw [if_neg (not_not_intro cs), if_pos ct]
  · refine ⟨(-2, I), ?_, (-2, I), ?_, rfl, hC⟩
    · unfold f11_sheet
      rw [g11_sheetOf, zb_some, if_neg cs, zm_none]
    · unfold f12_sheet
      simp only [g12_in, zb_some, zB_0, z0, z2, z3, zm1]
      rw [if_pos cs]

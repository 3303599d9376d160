/-! pure part: taken -/
theorem zsplit7 {k : Int32} (h0 : 0 ≤ k.toInt) (h6 : k.toInt ≤ 6) : k = 0 ∨ k = 1 ∨ k = 2 ∨ k = 3 ∨ k = 4 ∨ k = 5 ∨ k = 6 := by
  simp only [zeq_iff, Int32.reduceToInt]
  omega
def zuni (k p : Int32) : Int32 := if p = 0 then 1 else if k = p then 1 else if p = 1 then (if k = 3 then 1 else 0) else if p = 2 then (if k = 4 then 1 else 0) else 0
theorem g12_isUnder {k p : Int32} (k0 : 0 ≤ k.toInt) (k5 : k.toInt ≤ 5) (p0 : 0 ≤ p.toInt) (p6 : p.toInt ≤ 6) : f12_isUnder k p = some (zuni k p) := by
  rcases zsplit6 k0 k5 with rfl | rfl | rfl | rfl | rfl | rfl <;> rcases zsplit7 p0 p6 with rfl | rfl | rfl | rfl | rfl | rfl | rfl <;> rfl
theorem gv_isOf {n a : Nat} {kd : zMK} {I : zMI} {k p : Int32} (hW : zWkB n kd a = true) (k0 : 0 ≤ k.toInt) (k5 : k.toInt ≤ 5) (hk : (kd a).1 = 16 + zkc k) (p0 : 0 ≤ p.toInt) (p6 : p.toInt ≤ 6) : fv_isOf n kd I a p = some (zuni k p) := by
  unfold fv_isOf f1_isOf f4_isOf f5_isOf f8_isOf f9_isOf f10_isOf
  simp only [hW, if_true]
  rw [hk]
  rcases zsplit6 k0 k5 with rfl | rfl | rfl | rfl | rfl | rfl <;> rcases zsplit7 p0 p6 with rfl | rfl | rfl | rfl | rfl | rfl | rfl <;> rfl
theorem zH37_ok {T : Nat → zMK → zMI → zMR → Prop} : zH37 (zC T) := fun n kd I R i p hC => by
  have z6 : (6 : Int32).toInt = 6 := rfl
  have z13 : (13 : Int32).toInt = 13 := rfl
  have z14 : (14 : Int32).toInt = 14 := rfl
  have r3 := hC.2.1.2.2.2.2.2.1
  by_cases cp : 0 ≤ p.toInt ∧ p.toInt ≤ 6
  · have t1 : ¬ p < 0 := by rw [zlt_iff, z0]; omega
    have t2 : p ≤ 6 := by rw [zle_iff, z6]; omega
    by_cases ci : 0 ≤ i.toInt ∧ i.toInt ≤ 13
    · have t3 : ¬ i < 0 := by rw [zlt_iff, z0]; omega
      have t4 : i < 14 := by rw [zlt_iff, z14]; omega
      by_cases c9 : (9 : Int32) ≤ i
      · have q9 := (zle_iff _ _).mp c9
        rw [z9] at q9
        have e9 : (i - 9).toInt = i.toInt - 9 := zsub (by rw [z9]; omega) (by rw [z9]; omega)
        by_cases cw : (i - 9).toInt < (I 81 3).toInt
        · obtain ⟨a, q1, q2, q3, q4, q5, q6, q7, q8, q9, q10⟩ := hC.2.2.2.2.2.2.1 (i - 9).toNatClampNeg (by rw [zcl_iff]; omega)
          have hW := zW_ok q2 q3 q4 (zkc_w q5.1 q5.2)
          have e0 : I a 0 = i - 9 := by
            rw [zeq_iff, q6, zcl_iff]
            omega
          have f : f11_walkerTaken n kd I R (i - 9) p = some (if zuni (I 84 (i - 9).toNatClampNeg) p = 0 then -13 else i - 9) := by
            unfold f11_walkerTaken
            rw [g11_walkerOf hC, zb_some, if_pos ⟨by omega, cw⟩, q1, zm_some, if_pos hW, gv_isOf hW q5.1 q5.2 q4 cp.1 cp.2, zb_some, zl_eq, e0]
          refine ⟨(if zuni (I 84 (i - 9).toNatClampNeg) p = 0 then -13 else i - 9), ?_, (if zuni (I 84 (i - 9).toNatClampNeg) p = 0 then -13 else i - 9), ?_, rfl, hC⟩
          · unfold f11_taken
            rw [if_neg t1, if_pos t2, if_neg t3, if_pos t4, if_pos c9, f, zb_some]
          · unfold f12_taken
            simp only [g12_in, zb_some, z0, z6, z13, zB_0]
            rw [if_neg (not_not_intro cp), if_neg (not_not_intro ci), if_pos c9, if_pos (by rw [zlt_iff]; exact cw)]
            by_cases c6 : (6 : Int32) ≤ p
            · have : p = 6 := by
                rw [zle_iff, z6] at c6
                rw [zeq_iff, z6]
                omega
              rw [if_pos c6, this]
              have u : zuni (I 84 (i - 9).toNatClampNeg) 6 = 0 := by
                rcases zsplit6 q5.1 q5.2 with e | e | e | e | e | e <;> rw [e] <;> rfl
              rw [u]
              rfl
            · rw [if_neg c6, if_pos (zib_ok (by omega) (by omega)), g12_isUnder q5.1 q5.2 cp.1 cp.2, zb_some]
              split <;> rfl
        · refine ⟨-11, ?_, -11, ?_, rfl, hC⟩
          · unfold f11_taken f11_walkerTaken
            rw [if_neg t1, if_pos t2, if_neg t3, if_pos t4, if_pos c9, g11_walkerOf hC, zb_some, if_neg (fun q => cw q.2), zm_none, zb_some]
          · unfold f12_taken
            simp only [g12_in, zb_some, z0, z6, z13, zB_0]
            rw [if_neg (not_not_intro cp), if_neg (not_not_intro ci), if_pos c9, if_neg (by rw [zlt_iff]; exact cw)]
      · have q9 : ¬ (9 : Int32) ≤ i := c9
        rw [zle_iff, z9] at q9
        have hz : zib i 9 = true := zib_ok ci.1 (by omega)
        obtain ⟨w1, -⟩ := hC.2.2.1 i.toNatClampNeg (by rw [zcl_iff]; omega)
        have f : f11_heapTaken I i p = some (if I 82 i.toNatClampNeg = 0 then -11 else if p = 6 then I 82 i.toNatClampNeg else -13) := by
          unfold f11_heapTaken
          rw [g11_noHeap, zb_some]
          simp only [zB_0]
          rw [if_pos (not_not_intro ⟨ci.1, by omega⟩), if_pos hz, w1]
          split <;> rfl
        refine ⟨(if I 82 i.toNatClampNeg = 0 then -11 else if p = 6 then I 82 i.toNatClampNeg else -13), ?_, (if I 82 i.toNatClampNeg = 0 then -11 else if p = 6 then I 82 i.toNatClampNeg else -13), ?_, rfl, hC⟩
        · unfold f11_taken
          rw [if_neg t1, if_pos t2, if_neg t3, if_pos t4, if_neg c9, f, zb_some]
        · unfold f12_taken
          simp only [g12_in, zb_some, z0, z6, z13, zB_0]
          rw [if_neg (not_not_intro cp), if_neg (not_not_intro ci), if_neg c9, if_pos hz, zl_eq]
    · refine ⟨-12, ?_, -12, ?_, rfl, hC⟩
      · unfold f11_taken
        rw [if_neg t1, if_pos t2]
        by_cases q : i < 0
        · rw [if_pos q]
        · rw [if_neg q, if_neg (by rw [zlt_iff, z0] at q; rw [zlt_iff, z14]; omega)]
      · unfold f12_taken
        simp only [g12_in, zb_some, z0, z6, z13, zB_0]
        rw [if_neg (not_not_intro cp), if_pos ci]
  · refine ⟨-2, ?_, -2, ?_, rfl, hC⟩
    · unfold f11_taken
      by_cases q : p < 0
      · rw [if_pos q]
      · rw [if_neg q, if_neg (by rw [zlt_iff, z0] at q; rw [zle_iff, z6]; omega)]
    · unfold f12_taken
      simp only [g12_in, zb_some, z0, z6, zB_0]
      rw [if_pos cp]

/-! pure part: feed, both functions in one form -/
theorem g12_isByte (v : Int32) : f12_isByte v = some (zB (0 ≤ v.toInt ∧ v.toInt ≤ 255)) := by
  unfold f12_isByte
  rw [g12_in, zb_some, if_pos (zB_bB _)]
  rfl
theorem g11_noByte (v : Int32) : f11_noByte v = some (zB (¬ (0 ≤ v.toInt ∧ v.toInt ≤ 255))) := by
  have z255 : (255 : Int32).toInt = 255 := rfl
  unfold f11_noByte
  have e : (if v < (0 : Int32) then (1 : Int32) else if v ≤ 255 then 0 else 1) = zB (¬ (0 ≤ v.toInt ∧ v.toInt ≤ 255)) := by
    unfold zB
    simp only [zlt_iff, zle_iff, z0, z255]
    repeat' split
    all_goals first | rfl | (exfalso; omega)
  rw [zl_eq, e, if_pos (zB_bB _)]
theorem zXa_eq {v : Int32} {I : zMI} (h : 0 ≤ (I 37 1).toInt ∧ (I 37 1).toInt < 160) : f7_add v I = some (zXa v I) := g7_add h
/-- all five are bytes, there is room: the class takes the first l1 -/
theorem g11_feed_ok {l1 l2 l3 l4 l5 l6 : Int32} {I : zMI} (h1 : 1 ≤ l1.toInt ∧ l1.toInt ≤ 5) (b2 : 0 ≤ l2.toInt ∧ l2.toInt ≤ 255) (b3 : 0 ≤ l3.toInt ∧ l3.toInt ≤ 255) (b4 : 0 ≤ l4.toInt ∧ l4.toInt ≤ 255) (b5 : 0 ≤ l5.toInt ∧ l5.toInt ≤ 255) (b6 : 0 ≤ l6.toInt ∧ l6.toInt ≤ 255) (h0 : 0 ≤ (I 37 1).toInt) (hr : (I 37 1).toInt + l1.toInt ≤ 160) :
    f11_feed l1 l2 l3 l4 l5 l6 I = some (zXA (zby l2 l3 l4 l5 l6) l1.toInt.toNat 0 I 37 1, zXA (zby l2 l3 l4 l5 l6) l1.toInt.toNat 0 I) := by
  have z160 : (160 : Int32).toInt = 160 := rfl
  have z5 : (5 : Int32).toInt = 5 := rfl
  have z4 : (4 : Int32).toInt = 4 := rfl
  have z3 : (3 : Int32).toInt = 3 := rfl
  have er : ((160 : Int32) - I 37 1).toInt = 160 - (I 37 1).toInt := zsub (by rw [z160]; omega) (by rw [z160]; omega)
  have s1 := zXa_sz (v := l2) (I := I) ⟨h0, by omega⟩
  have a1 := zXa_eq (v := l2) (I := I) ⟨h0, by omega⟩
  have t1 : ¬ l1 < 1 := by rw [zlt_iff, z1]; omega
  have t2 : ¬ (5 : Int32) < l1 := by rw [zlt_iff, z5]; omega
  have t3 : l1 ≤ 160 - I 37 1 := by rw [zle_iff, er]; omega
  unfold f11_feed f11_feed_B90 f11_feed_B104 f11_feed_B118
  rw [if_neg t1, if_neg t2, g11_noByte, zb_some, g11_noByte, zb_some, g11_noByte, zb_some, g11_noByte, zb_some, g11_noByte, zb_some]
  simp only [zB_0]
  rw [if_pos (not_not_intro b2), if_pos (not_not_intro b3), if_pos (not_not_intro b4), if_pos (not_not_intro b5), if_pos (not_not_intro b6), if_pos t3, a1, zb_some]
  by_cases c1 : l1.toInt = 1
  · rw [if_pos (by rw [zle_iff, z1]; omega), if_pos (by rw [zle_iff, z2]; omega), if_pos (by rw [zle_iff, z3]; omega), if_pos (by rw [zle_iff, z4]; omega), c1]
    rfl
  have u1 : ¬ l1 ≤ 1 := by rw [zle_iff, z1]; omega
  have s2 := zXa_sz (v := l3) (I := zXa l2 I) ⟨by omega, by omega⟩
  rw [if_neg u1, zXa_eq (v := l3) (I := zXa l2 I) ⟨by omega, by omega⟩, zb_some]
  by_cases c2 : l1.toInt = 2
  · rw [if_pos (by rw [zle_iff, z2]; omega), if_pos (by rw [zle_iff, z3]; omega), if_pos (by rw [zle_iff, z4]; omega), c2]
    rfl
  have u2 : ¬ l1 ≤ 2 := by rw [zle_iff, z2]; omega
  have s3 := zXa_sz (v := l4) (I := zXa l3 (zXa l2 I)) ⟨by omega, by omega⟩
  rw [if_neg u2, zXa_eq (v := l4) (I := zXa l3 (zXa l2 I)) ⟨by omega, by omega⟩, zb_some]
  by_cases c3 : l1.toInt = 3
  · rw [if_pos (by rw [zle_iff, z3]; omega), if_pos (by rw [zle_iff, z4]; omega), c3]
    rfl
  have u3 : ¬ l1 ≤ 3 := by rw [zle_iff, z3]; omega
  have s4 := zXa_sz (v := l5) (I := zXa l4 (zXa l3 (zXa l2 I))) ⟨by omega, by omega⟩
  rw [if_neg u3, zXa_eq (v := l5) (I := zXa l4 (zXa l3 (zXa l2 I))) ⟨by omega, by omega⟩, zb_some]
  by_cases c4 : l1.toInt = 4
  · rw [if_pos (by rw [zle_iff, z4]; omega), c4]
    rfl
  have u4 : ¬ l1 ≤ 4 := by rw [zle_iff, z4]; omega
  rw [if_neg u4, zXa_eq (v := l6) (I := zXa l5 (zXa l4 (zXa l3 (zXa l2 I)))) ⟨by omega, by omega⟩, zb_some, show l1.toInt = 5 by omega]
  rfl

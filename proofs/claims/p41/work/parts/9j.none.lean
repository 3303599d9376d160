/-! pure part: nobody's stretches -/
theorem g12_finds0 {J : zMI} (h : J 81 3 = 0) : ∃ J', f12_findsStretches J = some (-1, J') ∧ ∀ b, b ≠ 111 → J' b = J b := by
  obtain ⟨J2, y1, y2, y3, y4⟩ := g12_giveL (l1 := -1) 5 zF 0 J (by rw [z0]; rfl) (by rw [z0]; omega) (by unfold zF; omega)
  refine ⟨J2, ?_, y4⟩
  have t1 : f12_tens ((0 : Int32) - 1) = some 1 := by decide +kernel
  obtain ⟨q, hq⟩ : ∃ q, zF = q + 1 := ⟨zF - 1, by unfold zF; omega⟩
  have F : f12_findsStretches_L4 f12_findsStretches_B85 (q + 1) (-1) 0 J = f12_findsStretches_B85 (-1) J := by
    rw [f12_findsStretches_L4]
    rw [h, t1, zb_some, if_neg (by decide), if_pos (by decide)]
  unfold f12_findsStretches
  rw [hq, F]
  unfold f12_findsStretches_B85
  exact y1

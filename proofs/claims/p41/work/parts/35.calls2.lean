/-! pure part: begin -/
theorem zkc_ne {k : Int32} : 16 + zkc k ≠ 0 ∧ 16 + zkc k ≠ 19 := by
  unfold zkc
  repeat' split
  all_goals decide
theorem zC_from {T : Nat → zMK → zMI → zMR → Prop} (hT : zTq T) {n : Nat} {kd : zMK} {I : zMI} {R : zMR} {i a : Nat} {v : Int32} (h : zC T n kd I R) (hi : i < (I 81 3).toInt.toNat) (ha : R 35 i = some a) (hv : 0 ≤ v.toInt ∧ v.toInt ≤ 8) : zC T n kd (uI (uI I a 2 v) 86 i v) R := by
  obtain ⟨h1, h2, h3, h4, h5, h6, h7, h8⟩ := h
  obtain ⟨a', q1, q2, q3, q4, q5, q6, q7⟩ := h7 i hi
  cases ha.symm.trans q1
  have e : ∀ b, b ≠ 86 → b ≠ a → uI (uI I a 2 v) 86 i v b = I b := fun b x y => by rw [uI_ne x, uI_ne y]
  have e32 := e 32 (by decide) (by omega)
  have e81 := e 81 (by decide) (by omega)
  have e37 := e 37 (by decide) (by omega)
  refine ⟨h1, ?_, ?_, ?_, ?_, ?_, ?_, zTq_same hT h1 (by rw [e81]) (fun b hb => ?_) h8⟩
  · unfold zCn at h2 ⊢
    rw [e32, e81, e37]
    exact h2
  · unfold zCh at h3 ⊢
    rw [e 33 (by decide) (by omega), e 34 (by decide) (by omega), e 82 (by decide) (by omega), e 83 (by decide) (by omega)]
    exact h3
  · unfold zCt at h4 ⊢
    rw [e81, e 38 (by decide) (by omega), e 87 (by decide) (by omega)]
    exact h4
  · intro s hs
    rw [e (73 + 2 * s) (by omega) (by omega), e (74 + 2 * s) (by omega) (by omega), e 91 (by decide) (by omega), e 92 (by decide) (by omega), e 93 (by decide) (by omega)]
    exact h5 s hs
  · unfold zCi at h6 ⊢
    rw [e32, e81, e 64 (by decide) (by omega), e 65 (by decide) (by omega), e 66 (by decide) (by omega), e 90 (by decide) (by omega)]
    exact h6
  · intro j hj
    rw [e81] at hj
    obtain ⟨b, w1, w2, w3, w4, w5, w6, w7, w8, w9, w10⟩ := h7 j hj
    refine ⟨b, w1, w2, w3, ?_⟩
    rw [e 84 (by decide) (by omega), e 85 (by decide) (by omega)]
    by_cases hij : j = i
    · subst hij
      cases w1.symm.trans q1
      have x : uI (uI I a 2 v) 86 j v a = uI I a 2 v a := uI_ne (by omega)
      rw [x, uI_at, uI_off (by decide), uI_off (by decide), uI_at]
      exact ⟨w4, w5, w6, w7, w8, rfl, hv⟩
    · have hba : b ≠ a := fun q => by
        subst q
        rw [q6] at w6
        omega
      rw [e b (by omega) hba]
      have x : uI (uI I a 2 v) 86 i v 86 j = I 86 j := by rw [uI_off hij, uI_ne (by omega)]
      rw [x]
      exact ⟨w4, w5, w6, w7, w8, w9, w10⟩
  · unfold zTa at hb
    refine e b (by omega) fun q => ?_
    subst q
    have := (zkc_ne (k := I 84 i))
    omega
theorem zH8_ok {T : Nat → zMK → zMI → zMR → Prop} (hT : zTq T) : zH8 (zC T) := fun n kd I R a1 a2 hC => by
  have r3 := hC.2.1.2.2.2.2.2.1
  by_cases c : 0 ≤ a1.toInt ∧ a1.toInt < (I 81 3).toInt
  · have hi : a1.toNatClampNeg < (I 81 3).toInt.toNat := by rw [zcl_iff]; omega
    obtain ⟨a, q1, q2, q3, q4, q5, q6, q7, q8, q9, q10⟩ := hC.2.2.2.2.2.2.1 _ hi
    have hw := zW_ok q2 q3 q4 (zkc_w q5.1 q5.2)
    have hz : zib a1 5 = true := zib_ok c.1 (by omega)
    by_cases c2 : 0 ≤ a2.toInt ∧ a2.toInt ≤ 8
    · have hC2 := zC_from hT hC hi q1 c2
      have f : f11_begin n kd R a1 a2 I = some (I a 2, uI I a 2 a2) := by
        unfold f11_begin
        rw [g11_walkerOf hC, zb_some, if_pos c, q1, zm_some, g11_noHeap, zb_some]
        simp only [zB_0]
        rw [if_pos (not_not_intro c2), if_pos hw, zl_eq]
      refine ⟨_, f, (uI I a 2 a2 86 a1.toNatClampNeg, uI (uI I a 2 a2) 86 a1.toNatClampNeg a2), ?_, ?_, hC2⟩
      · have g : f12_isWalker (uI I a 2 a2) a1 = f12_isWalker I a1 := by
          unfold f12_isWalker
          rw [uI_ne (show 81 ≠ a by omega)]
        unfold f12_begin
        dsimp only
        rw [g, g12_isWalker hC, zb_some, g12_isHeap, zb_some]
        simp only [zB_0]
        rw [if_neg (not_not_intro c), if_neg (not_not_intro c2), if_pos hz, zl_eq]
      · show I a 2 = uI I a 2 a2 86 a1.toNatClampNeg
        rw [uI_ne (by omega)]
        exact q9
    · refine ⟨(-7, I), ?_, (-7, I), ?_, rfl, hC⟩
      · unfold f11_begin
        rw [g11_walkerOf hC, zb_some, if_pos c, q1, zm_some, g11_noHeap, zb_some]
        simp only [zB_0]
        rw [if_neg (fun q => q c2)]
      · unfold f12_begin
        rw [g12_isWalker hC, zb_some, g12_isHeap, zb_some]
        simp only [zB_0]
        rw [if_neg (not_not_intro c), if_pos c2]
  · refine ⟨(-5, I), ?_, (-5, I), ?_, rfl, hC⟩
    · unfold f11_begin
      rw [g11_walkerOf hC, zb_some, if_neg c, zm_none]
    · unfold f12_begin
      rw [g12_isWalker hC, zb_some]
      simp only [zB_0]
      rw [if_pos c]

/-! pure part: feed answers alike -/
theorem zH3_ok {T : Nat → zMK → zMI → zMR → Prop} (hT : zTq T) : zH3 (zC T) := fun n kd I R l1 l2 l3 l4 l5 l6 hC => by
  have z160 : (160 : Int32).toInt = 160 := rfl
  have z5 : (5 : Int32).toInt = 5 := rfl
  have hn := hC.2.1
  unfold zCn at hn
  obtain ⟨e1, e2, e3, e4, e5, r3, r2, r11, r12, r8⟩ := hn
  by_cases c1 : ¬ (1 ≤ l1.toInt ∧ l1.toInt ≤ 5)
  · refine ⟨(-2, I), ?_, (-2, I), ?_, rfl, hC⟩
    · unfold f11_feed
      by_cases q : l1 < 1
      · rw [if_pos q]
      · rw [if_neg q, if_pos (by rw [zlt_iff, z1] at q; rw [zlt_iff, z5]; omega)]
    · unfold f12_feed
      rw [g12_in, zb_some, z1, z5]
      simp only [zB_0]
      rw [if_pos c1]
  have c1 := Classical.not_not.mp c1
  have t1 : ¬ l1 < 1 := by rw [zlt_iff, z1]; omega
  have t2 : ¬ (5 : Int32) < l1 := by rw [zlt_iff, z5]; omega
  by_cases bb : ¬ ((0 ≤ l2.toInt ∧ l2.toInt ≤ 255) ∧ (0 ≤ l3.toInt ∧ l3.toInt ≤ 255) ∧ (0 ≤ l4.toInt ∧ l4.toInt ≤ 255) ∧ (0 ≤ l5.toInt ∧ l5.toInt ≤ 255) ∧ (0 ≤ l6.toInt ∧ l6.toInt ≤ 255))
  · refine ⟨(-2, I), ?_, (-2, I), ?_, rfl, hC⟩
    · unfold f11_feed
      rw [if_neg t1, if_neg t2]
      simp only [g11_noByte, zb_some, zB_0]
      by_cases b2 : 0 ≤ l2.toInt ∧ l2.toInt ≤ 255
      · by_cases b3 : 0 ≤ l3.toInt ∧ l3.toInt ≤ 255
        · by_cases b4 : 0 ≤ l4.toInt ∧ l4.toInt ≤ 255
          · by_cases b5 : 0 ≤ l5.toInt ∧ l5.toInt ≤ 255
            · have b6 : ¬ (0 ≤ l6.toInt ∧ l6.toInt ≤ 255) := fun q => bb ⟨b2, b3, b4, b5, q⟩
              rw [if_pos (not_not_intro b2), if_pos (not_not_intro b3), if_pos (not_not_intro b4), if_pos (not_not_intro b5), if_neg (not_not_intro b6)]
            · rw [if_pos (not_not_intro b2), if_pos (not_not_intro b3), if_pos (not_not_intro b4), if_neg (not_not_intro b5)]
          · rw [if_pos (not_not_intro b2), if_pos (not_not_intro b3), if_neg (not_not_intro b4)]
        · rw [if_pos (not_not_intro b2), if_neg (not_not_intro b3)]
      · rw [if_neg (not_not_intro b2)]
    · unfold f12_feed
      simp only [g12_in, g12_isByte, zb_some, zB_0, z1, z5]
      rw [if_neg (not_not_intro c1)]
      by_cases b2 : 0 ≤ l2.toInt ∧ l2.toInt ≤ 255
      · by_cases b3 : 0 ≤ l3.toInt ∧ l3.toInt ≤ 255
        · by_cases b4 : 0 ≤ l4.toInt ∧ l4.toInt ≤ 255
          · by_cases b5 : 0 ≤ l5.toInt ∧ l5.toInt ≤ 255
            · have b6 : ¬ (0 ≤ l6.toInt ∧ l6.toInt ≤ 255) := fun q => bb ⟨b2, b3, b4, b5, q⟩
              rw [if_neg (not_not_intro b2), if_neg (not_not_intro b3), if_neg (not_not_intro b4), if_neg (not_not_intro b5), if_pos b6]
            · rw [if_neg (not_not_intro b2), if_neg (not_not_intro b3), if_neg (not_not_intro b4), if_pos b5]
          · rw [if_neg (not_not_intro b2), if_neg (not_not_intro b3), if_pos b4]
        · rw [if_neg (not_not_intro b2), if_pos b3]
      · rw [if_pos b2]
  obtain ⟨b2, b3, b4, b5, b6⟩ := Classical.not_not.mp bb
  have em : ∀ J : zMI, J 81 8 = I 81 8 → (J 81 8 + l1).toInt = (I 81 8).toInt + l1.toInt := fun J hJ => by rw [hJ, zadd (by omega) (by omega)]
  by_cases cr : (I 81 8).toInt + l1.toInt ≤ 160
  · have f := g11_feed_ok (I := I) c1 b2 b3 b4 b5 b6 (by rw [e5]; exact r8.1) (by rw [e5]; exact cr)
    obtain ⟨x1, x2, x3, x4⟩ := zXA_all (zby l2 l3 l4 l5 l6) l1.toInt.toNat 0 I (by rw [e5]; exact r8.1) (by rw [e5]; omega)
    generalize zXA (zby l2 l3 l4 l5 l6) l1.toInt.toNat 0 I = K at f x1 x2 x3 x4
    have k81 : K 81 = I 81 := x3 81 (by decide) (by decide)
    obtain ⟨J, j1, j2, j3, j4, j5⟩ := g12_feedL (l2 := l2) (l3 := l3) (l4 := l4) (l5 := l5) (l6 := l6) c1.2 l1.toInt.toNat zF 0 K (by rw [z0]; omega) (by rw [z0]; omega) (by rw [k81]; exact r8.1) (by rw [k81]; omega) (by unfold zF; omega)
    have G : ∀ a, a ≠ 38 → a ≠ 37 → a ≠ 87 → a ≠ 81 → J a = I a := fun a q1 q2 q3 q4 => by rw [j4 a q3 q4, x3 a q1 q2]
    have J81 : ∀ j, j ≠ 8 → J 81 j = I 81 j := fun j hj => by rw [j5 j hj, k81]
    have J37 : J 37 = K 37 := j4 37 (by decide) (by decide)
    have ea : K 37 1 = J 81 8 := by
      rw [zeq_iff, x1, j2, k81, e5]
    refine ⟨_, f, (J 81 8, J), ?_, ea, ?_⟩
    · unfold f12_feed
      simp only [g12_in, g12_isByte, zb_some, zB_0, z1, z5]
      rw [if_neg (not_not_intro c1), if_neg (not_not_intro b2), if_neg (not_not_intro b3), if_neg (not_not_intro b4), if_neg (not_not_intro b5), if_neg (not_not_intro b6), if_pos (by rw [zle_iff, em K (by rw [k81]), z160]; exact cr)]
      exact j1
    · dsimp only
      obtain ⟨h1, h2, h3, h4, h5, h6, h7, h8⟩ := hC
      have J32 : J 32 = I 32 := G 32 (by decide) (by decide) (by decide) (by decide)
      refine ⟨h1, ?_, ?_, ?_, ?_, ?_, ?_, zTq_same hT h1 (J81 11 (by decide)) (fun a ha => ?_) h8⟩
      · unfold zCn
        rw [J32, J37, J81 3 (by decide), J81 2 (by decide), J81 11 (by decide), J81 12 (by decide), j2, k81]
        exact ⟨e1, e2, e3, e4, ea, r3, r2, r11, r12, by omega, by omega⟩
      · unfold zCh at h3 ⊢
        rw [G 33 (by decide) (by decide) (by decide) (by decide), G 34 (by decide) (by decide) (by decide) (by decide), G 82 (by decide) (by decide) (by decide) (by decide), G 83 (by decide) (by decide) (by decide) (by decide)]
        exact h3
      · intro k hk
        rw [j2, k81] at hk
        rw [j4 38 (by decide) (by decide), x2 k, j3 k, e5, k81, z0, x3 87 (by decide) (by decide)]
        by_cases q : (I 81 8).toInt.toNat ≤ k ∧ k < (I 81 8).toInt.toNat + l1.toInt.toNat
        · rw [if_pos q, if_pos q]
          refine ⟨rfl, ?_⟩
          unfold zby
          repeat' split
          all_goals assumption
        · rw [if_neg q, if_neg q]
          exact h4 k (by omega)
      · intro s hs
        rw [G (73 + 2 * s) (by omega) (by omega) (by omega) (by omega), G (74 + 2 * s) (by omega) (by omega) (by omega) (by omega), G 91 (by decide) (by decide) (by decide) (by decide), G 92 (by decide) (by decide) (by decide) (by decide), G 93 (by decide) (by decide) (by decide) (by decide)]
        exact h5 s hs
      · unfold zCi at h6 ⊢
        rw [J32, J81 3 (by decide), J81 11 (by decide), J81 13 (by decide), J81 14 (by decide), J81 15 (by decide), J81 16 (by decide), G 64 (by decide) (by decide) (by decide) (by decide), G 65 (by decide) (by decide) (by decide) (by decide), G 66 (by decide) (by decide) (by decide) (by decide), G 90 (by decide) (by decide) (by decide) (by decide)]
        exact h6
      · intro i hi
        rw [J81 3 (by decide)] at hi
        obtain ⟨a, q1, q2, q3, q4⟩ := h7 i hi
        refine ⟨a, q1, q2, q3, ?_⟩
        rw [G a (by omega) (by omega) (by omega) (by omega), G 84 (by decide) (by decide) (by decide) (by decide), G 85 (by decide) (by decide) (by decide) (by decide), G 86 (by decide) (by decide) (by decide) (by decide)]
        exact q4
      · unfold zTa at ha
        exact G a (by omega) (by omega) (by omega) (by omega)
  · refine ⟨(-4, I), ?_, (-4, I), ?_, rfl, hC⟩
    · have er : ((160 : Int32) - I 37 1).toInt = 160 - (I 37 1).toInt := zsub (by rw [z160, e5]; omega) (by rw [z160, e5]; omega)
      unfold f11_feed
      rw [if_neg t1, if_neg t2]
      simp only [g11_noByte, zb_some, zB_0]
      rw [if_pos (not_not_intro b2), if_pos (not_not_intro b3), if_pos (not_not_intro b4), if_pos (not_not_intro b5), if_pos (not_not_intro b6), if_neg (by rw [zle_iff, er, e5]; omega)]
    · unfold f12_feed
      simp only [g12_in, g12_isByte, zb_some, zB_0, z1, z5]
      rw [if_neg (not_not_intro c1), if_neg (not_not_intro b2), if_neg (not_not_intro b3), if_neg (not_not_intro b4), if_neg (not_not_intro b5), if_neg (not_not_intro b6), if_neg (by rw [zle_iff, em I rfl, z160]; omega)]

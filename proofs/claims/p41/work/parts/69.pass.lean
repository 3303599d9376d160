/-! pure part: seconds pass, on both sides -/
section
variable {n : Nat} {kd : zMK} {R : zMR} {L s t w : Nat} {A : Nat → Nat} {I J : zMI} {c tm : Int}
theorem zsecL (hX : zCx n kd A s) {t32 : Int32} (ht0 : 0 ≤ tm) (hc : c ≤ 3580) (k75 : Int32 → Int32 → zMI → Option zMI) (l1 l2 : Int32) : ∀ (d q q' : Nat) (l3 : Int32) (I J : zMI) (e : Int), zG n kd R L s t A I J (c + e) tm → I 42 5 = t32 → l3.toInt + d = (J 81 34).toInt → 0 ≤ l3.toInt → d < q → d < q' → 0 ≤ e → e + d ≤ 5 →
    ∃ I' J', f0_pass_L9 n kd R k75 q l1 l2 l3 I = k75 l1 l2 I' ∧ f12_second_L2 q' t32 l3 J = some J' ∧ zG n kd R L s t A I' J' (c + (e + d)) tm ∧ zFI A s I I' ∧ zFJ J J' ∧ (J' 81 48 = J 81 48 ∨ (J 81 48 = -1 ∧ J' 81 48 = t32)) ∧ zmi J J' := by
  intro d
  induction d with
  | zero =>
    intro q q' l3 I J e hG et el h0 hq hq' he0 he
    obtain ⟨q, rfl⟩ : ∃ p, q = p + 1 := ⟨q - 1, by omega⟩
    obtain ⟨q', rfl⟩ : ∃ p, q' = p + 1 := ⟨q' - 1, by omega⟩
    refine ⟨I, J, ?_, ?_, zG_c hG (by omega), zFI_rfl, zFJ_rfl, Or.inl rfl, fun _ hb => hb⟩
    · rw [f0_pass_L9]
      rw [hG.1.2.2.2.2.2.2.1, if_pos (by rw [zle_iff]; omega)]
    · rw [f12_second_L2]
      rw [if_pos (by rw [zle_iff]; omega)]
  | succ d ih =>
    intro q q' l3 I J e hG et el h0 hq hq' he0 he
    obtain ⟨q, rfl⟩ : ∃ p, q = p + 1 := ⟨q - 1, by omega⟩
    obtain ⟨q', rfl⟩ : ∃ p, q' = p + 1 := ⟨q' - 1, by omega⟩
    have e1 := zsucc el
    obtain ⟨I1, J1, u1, u2, w, hw, hgo, u3, u4, u5, u6, u7⟩ := zstep hX hG et ht0 (by omega) (k := l3.toInt.toNat) (by omega)
    have J34 : J1 81 34 = J 81 34 := zEx_81j u5 (by decide)
    have t1 : I1 42 5 = t32 := by
      rw [← et, zeq_iff, u3.2.2.2.2.2.1, hG.2.2.2.2.2.1]
    obtain ⟨I', J', v1, v2, v3, v4, v5, v6, v7⟩ := ih q q' (l3 + 1) I1 J1 (e + 1) (by rw [show c + (e + 1) = c + e + 1 by omega]; exact u3) t1 (by rw [J34]; omega) (by omega) (by omega) (by omega) (by omega) (by omega)
    refine ⟨I', J', ?_, ?_, ?_, zFI_tr (zFI_D ⟨hw, rfl⟩ hX.2.2.2.2 hX.2.1 hX.2.2.1 hX.2.2.2.1 u4) v4, zFJ_tr (zFJ_E u5) v5, ?_, fun h' hb => v7 h' (u7 h' hb)⟩
    · rw [u1 k75 q l1 l2 l3 (by omega)]
      exact v1
    · rw [u2 q' l3 (by omega)]
      exact v2
    · rw [show c + (e + (d + 1 : Nat)) = c + (e + 1 + d) by omega]
      exact v3
    · rcases u6 with x | ⟨x, y⟩
      · rw [x] at v6
        exact v6
      · rw [et] at y
        rcases v6 with z | ⟨z, z'⟩
        · exact Or.inr ⟨x, by rw [z, y]⟩
        · exact Or.inr ⟨x, z'⟩
theorem zG_tick (hX : zCx n kd A s) (hG : zG n kd R L s t A I J c tm) (ht : 0 ≤ tm ∧ tm ≤ 1000) : zG n kd R L s t A (uI I 42 5 (I 42 5 + 1)) J c (tm + 1) ∧ zFI A s I (uI I 42 5 (I 42 5 + 1)) := by
  have hA := hX.2.2.2.2
  have hs := hX.2.1
  have nA : ∀ w, w < 5 → A w ≠ 42 := fun w hw => by
    have := hA w hw
    omega
  obtain ⟨g1, g2, g3, g4, g5, g6⟩ := hG
  have f42 : ∀ j, j ≠ 5 → uI I 42 5 (I 42 5 + 1) 42 j = I 42 j := fun j hj => uI_off hj
  refine ⟨⟨?_, g2, fun w hw => ?_, fun h hh => ?_, fun h hh => ?_, ?_⟩, ⟨fun b x1 _ _ _ _ _ => uI_ne x1, fun w j x1 _ => by rw [uI_ne (nA w x1)], fun j x1 x2 => f42 j (by omega), fun h _ => ⟨by rw [uI_ne (by omega)], by rw [uI_ne (by omega)]⟩⟩⟩
  · obtain ⟨h1, h2, h3, h4, h5, h6, h7, h8⟩ := g1
    refine ⟨h1, ⟨h2.1, zLx_eq h2.2 (uI_ne (by omega)) (uI_ne (by omega)) (uI_ne (by omega)) rfl rfl⟩, h3, h4, ?_, ?_, ?_, h8⟩
    · rw [f42 3 (by decide)]; exact h5
    · rw [f42 4 (by decide)]; exact h6
    · rw [f42 2 (by decide)]; exact h7
  · have hne := nA w hw
    refine ⟨fun q => ?_, (g3 w hw).2⟩
    obtain ⟨r1, r2⟩ := (g3 w hw).1 q
    refine ⟨zwl_eq r1 (by rw [uI_ne hne]) (by rw [uI_ne hne]) rfl rfl, ?_⟩
    unfold zGw at r2 ⊢
    rw [uI_ne hne]
    exact r2
  · have gh := g4 h hh
    unfold zGhq at gh ⊢
    rw [uI_ne (by omega)]
    exact gh
  · rw [uI_ne (by omega)]
    exact g5 h hh
  · unfold zGp at g6 ⊢
    rw [uI_at, f42 8 (by decide), f42 9 (by decide), f42 10 (by decide), f42 11 (by decide), f42 12 (by decide), uI_ne (show 45 ≠ 42 by decide)]
    obtain ⟨q1, q2, q3, q4, q5, q6, q7, q8, q9, q10, q11⟩ := g6
    refine ⟨by rw [zadd (by rw [z1]; omega) (by rw [z1]; omega), z1, q1], q2, q3, q4, q5, q6, q7, q8, q9, ?_, q11⟩
    rcases q10 with x | ⟨x1, x2, x3⟩
    · exact Or.inl x
    · exact Or.inr ⟨x1, by omega, x3⟩
theorem zpassL (hX : zCx n kd A s) (l1 T : Int32) : ∀ (m q q' : Nat) (l2 tt : Int32) (I J : zMI), zG n kd R L s t A I J (5 * tt.toInt) tt.toInt → l2.toInt + m = l1.toInt → 0 ≤ l2.toInt → 0 ≤ tt.toInt → tt.toInt + m ≤ T.toInt → T.toInt ≤ 600 → m < q → m < q' →
    ∃ I' J', ∃ t' : Int32, t'.toInt = tt.toInt + m ∧ f0_pass_L2 n kd R q l1 l2 I = some I' ∧ f12_goesFor_L6 q' T tt J = f12_goesFor_L6 (q' - m) T t' J' ∧ zG n kd R L s t A I' J' (5 * t'.toInt) t'.toInt ∧ zFI A s I I' ∧ zFJ J J' ∧ (J' 81 48 = J 81 48 ∨ (J 81 48 = -1 ∧ tt.toInt ≤ (J' 81 48).toInt)) ∧ zmi J J' := by
  intro m
  induction m with
  | zero =>
    intro q q' l2 tt I J hG e h0 h0' hT hT6 hq hq'
    obtain ⟨q, rfl⟩ : ∃ p, q = p + 1 := ⟨q - 1, by omega⟩
    refine ⟨I, J, tt, by omega, ?_, by rw [Nat.sub_zero], hG, zFI_rfl, zFJ_rfl, Or.inl rfl, fun _ hb => hb⟩
    rw [f0_pass_L2]
    rw [if_pos (by rw [zle_iff]; omega)]
  | succ m ih =>
    intro q q' l2 tt I J hG e h0 h0' hT hT6 hq hq'
    obtain ⟨q, rfl⟩ : ∃ p, q = p + 1 := ⟨q - 1, by omega⟩
    obtain ⟨q', rfl⟩ : ∃ p, q' = p + 1 := ⟨q' - 1, by omega⟩
    have g34 := hG.2.1.1
    have et : I 42 5 = tt := by rw [zeq_iff, hG.2.2.2.2.2.1]
    have e1 := zsucc e
    have e2 : (tt + 1).toInt = tt.toInt + 1 := by rw [zadd (by rw [z1]; omega) (by rw [z1]; omega), z1]
    obtain ⟨I1, J1, u1, u2, u3, u4, u5, u6, u7⟩ := zsecL hX (t32 := tt) (c := 5 * tt.toInt) h0' (by omega) (f0_pass_B75 n kd R (f0_pass_L2 n kd R q)) l1 l2 (J 81 34).toInt.toNat zF zF 0 I J 0 (by rw [Int.add_zero]; exact hG) et (by rw [z0]; omega) (by rw [z0]; omega) (by unfold zF; omega) (by unfold zF; omega) (Int.le_refl _) (by omega)
    have t1 : I1 42 5 = tt := by rw [zeq_iff, u3.2.2.2.2.2.1]
    obtain ⟨x1, x2⟩ := zG_tick hX (zG_c u3 (c' := 5 * (tt + 1).toInt) (by omega)) ⟨h0', by omega⟩
    rw [← e2] at x1
    obtain ⟨I', J', t', v0, v1, v2, v3, v4, v5, v6, v7⟩ := ih q q' (l2 + 1) (tt + 1) (uI I1 42 5 (I1 42 5 + 1)) J1 x1 (by omega) (by omega) (by omega) (by omega) hT6 (by omega) (by omega)
    refine ⟨I', J', t', by omega, ?_, ?_, v3, zFI_tr (zFI_tr u4 x2) v4, zFJ_tr u5 v5, ?_, fun h' hb => v7 h' (u7 h' hb)⟩
    · rw [f0_pass_L2]
      rw [if_neg (by rw [zle_iff]; omega), u1]
      unfold f0_pass_B75
      rw [zl_eq]
      exact v1
    · rw [f12_goesFor_L6]
      rw [if_neg (by rw [zle_iff]; omega)]
      unfold f12_second
      rw [u2, zb_some, show q' + 1 - (m + 1) = q' - m by omega]
      exact v2
    · rcases u6 with y | ⟨y, y'⟩
      · rw [y] at v6
        rcases v6 with z | ⟨z, z'⟩
        · exact Or.inl z
        · exact Or.inr ⟨z, by omega⟩
      · rcases v6 with z | ⟨z, z'⟩
        · exact Or.inr ⟨y, by rw [z, y']; omega⟩
        · exact Or.inr ⟨y, by omega⟩
end

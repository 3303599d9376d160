/-! pure part: back answers alike -/
theorem zH32_ok {T : Nat → zMK → zMI → zMR → Prop} (hT : zTq T) : zH32 (zC T) := fun n kd I R hC => by
  have hC0 := hC
  obtain ⟨h1, h2, h3, h4, h5, h6, h7, h8⟩ := hC
  have h2' := h2
  unfold zCn at h2'
  obtain ⟨e1, e2, e3, e4, e5, r3, r2, r11, r12, r8⟩ := h2'
  rcases h6 with ⟨i1, i2⟩ | ⟨i1, i2, i3, i4, i5, i6, i7, i8, i9⟩
  · refine ⟨(-3, I, R), ?_, (-3, I), ?_, rfl, hC0⟩
    · unfold f11_back
      rw [if_pos i2]
    · unfold f12_back
      rw [if_pos i1]
  have zm1 : (-1 : Int32).toInt = -1 := rfl
  have n1 : ¬ I 32 18 = -1 := fun x => by
    rw [i2] at x
    rw [x, zm1] at i5
    omega
  have n2 : ¬ I 81 13 = 0 := fun x => by
    rw [i1] at x
    cases x
  obtain ⟨J1, a1, a2, a3⟩ := g11_backL13 (n := n) (kd := kd) (f11_back_B49 n kd) (R := R) 9 zF 0 I (by rw [z0]; rfl) (by rw [z0]; omega) (by unfold zF; omega)
  have hB : zBw n kd (I 81 14).toInt.toNat J1 R := fun w hw => by
    obtain ⟨a, q1, q2, q3, q4, q5, q6, q7⟩ := h7 w (by omega)
    have := zkc_ne (k := I 84 w)
    refine ⟨a, q1, q2, zW_ok q2 q3 q4 (zkc_w q5.1 q5.2), by omega, by omega, ?_⟩
    rw [a3 a (by omega) (by omega)]
    exact q6
  obtain ⟨J2, R', b1, b2, b3, b4, b5, b6, b7⟩ := g11_backL51 (n := n) (kd := kd) (f11_back_B101 n kd) (c := I 81 14) ⟨i5.1, by omega⟩ 5 zF 0 J1 R (by rw [z0]; rfl) (by rw [z0]; omega) (by unfold zF; omega) (by rw [a3 32 (by decide) (by decide)]; exact i2) hB
  have E32 : J2 32 = I 32 := by rw [b6 32 (by decide), a3 32 (by decide) (by decide)]
  have f : f11_back n kd I R = some (I 32 18, uI (uI (uI J2 32 2 (I 32 17)) 32 4 (I 32 18)) 32 7 (I 32 19), R') := by
    unfold f11_back
    rw [if_neg n1, a1]
    unfold f11_back_B49
    rw [b1]
    unfold f11_back_B101
    simp (disch := omega) only [zl_eq, uI_off, uI_at, E32]
  generalize hK : uI (uI (uI J2 32 2 (I 32 17)) 32 4 (I 32 18)) 32 7 (I 32 19) = K at f
  have K_ne : ∀ b, b ≠ 32 → K b = J2 b := fun b hb => by rw [← hK, uI_ne hb, uI_ne hb, uI_ne hb]
  have KI : ∀ b, b < 114 → b ≠ 32 → b ≠ 33 → b ≠ 34 → K b = I b := fun b x y z w => by rw [K_ne b y, b6 b x, a3 b z w]
  have K81 : K 81 = I 81 := KI 81 (by decide) (by decide) (by decide) (by decide)
  generalize hM : uI (uI (uI K 81 3 (I 81 14)) 81 2 (I 81 15)) 81 12 (I 81 16) = M
  have M_ne : ∀ b, b ≠ 81 → M b = K b := fun b hb => by rw [← hM, uI_ne hb, uI_ne hb, uI_ne hb]
  obtain ⟨N1, c1, c2, c3⟩ := g12_backL36 f12_back_B75 9 zF 0 M (by rw [z0]; rfl) (by rw [z0]; omega) (by unfold zF; omega)
  obtain ⟨N2, d1, d2, d3⟩ := g12_backL77 5 zF 0 N1 (by rw [z0]; rfl) (by rw [z0]; omega) (by unfold zF; omega)
  have N_ne : ∀ b, b ≠ 82 → b ≠ 83 → b ≠ 86 → N2 b = M b := fun b x y z => by rw [d3 b z, c3 b x y]
  have X81 : N2 81 = M 81 := N_ne 81 (by decide) (by decide) (by decide)
  have M81 : ∀ k, k ≠ 3 → k ≠ 2 → k ≠ 12 → M 81 k = I 81 k := fun k x y z => by
    rw [← hM]
    simp (disch := omega) only [uI_off, K81]
  have M3 : M 81 3 = I 81 14 ∧ M 81 2 = I 81 15 ∧ M 81 12 = I 81 16 := by
    rw [← hM]
    simp (disch := omega) only [uI_off, uI_at, and_self]
  have g : f12_back K = some (I 81 14, N2) := by
    have e3 : N1 81 3 = I 81 14 := by rw [c3 81 (by decide) (by decide), M3.1]
    rw [e3] at d1
    have hz : f12_back K = f12_back_L36 f12_back_B75 zF 0 M := by
      unfold f12_back
      rw [K81, if_neg n2, zl_eq, zl_eq, zl_eq]
      congr 1
      rw [← hM]
      simp (disch := omega) only [uI_off, K81]
    rw [hz, c1]
    unfold f12_back_B75
    exact d1
  refine ⟨_, f, _, g, i2, ?_⟩
  have m90 : M 90 = I 90 := by rw [M_ne 90 (by decide), KI 90 (by decide) (by decide) (by decide) (by decide)]
  have n90 : N1 90 = I 90 := by rw [c3 90 (by decide) (by decide), m90]
  have G : ∀ b, b < 114 → b ≠ 32 → b ≠ 33 → b ≠ 34 → b ≠ 81 → b ≠ 82 → b ≠ 83 → b ≠ 86 → N2 b = I b := fun b x0 x1 x2 x3 x4 x5 x6 x7 => by rw [N_ne b x5 x6 x7, M_ne b x4, KI b x0 x1 x2 x3]
  have G32 : ∀ k, k ≠ 2 → k ≠ 4 → k ≠ 7 → N2 32 k = I 32 k := fun k x y z => by
    rw [N_ne 32 (by decide) (by decide) (by decide), M_ne 32 (by decide), ← hK]
    simp (disch := omega) only [uI_off, E32]
  have X : N2 32 2 = I 32 17 ∧ N2 32 4 = I 32 18 ∧ N2 32 7 = I 32 19 := by
    rw [N_ne 32 (by decide) (by decide) (by decide), M_ne 32 (by decide), ← hK]
    simp (disch := omega) only [uI_off, uI_at, and_self]
  have hh : ∀ h, h < 9 → N2 33 h = I 64 h ∧ N2 34 h = I 65 h ∧ N2 82 h = I 90 h ∧ N2 83 h = I 90 (9 + h) := fun h hh => by
    obtain ⟨u1, u2⟩ := a2 h hh
    obtain ⟨v1, v2⟩ := c2 h hh
    have x33 : N2 33 = J1 33 := by rw [N_ne 33 (by decide) (by decide) (by decide), M_ne 33 (by decide), K_ne 33 (by decide), b6 33 (by decide)]
    have x34 : N2 34 = J1 34 := by rw [N_ne 34 (by decide) (by decide) (by decide), M_ne 34 (by decide), K_ne 34 (by decide), b6 34 (by decide)]
    rw [x33, x34, u1, u2, d3 82 (by decide), d3 83 (by decide), v1, v2, if_pos (by rw [z0]; omega), if_pos (by rw [z0]; omega), if_pos (by rw [z0]; omega), if_pos (by rw [z0]; omega), m90]
    exact ⟨rfl, rfl, rfl, rfl⟩
  have G37 : N2 37 = I 37 := G 37 (by decide) (by decide) (by decide) (by decide) (by decide) (by decide) (by decide) (by decide)
  have G90 : N2 90 = I 90 := G 90 (by decide) (by decide) (by decide) (by decide) (by decide) (by decide) (by decide) (by decide)
  show zC T n kd N2 R'
  refine zC_mk hT hC0 ?_ ?_ (zCt_eq h4 (by rw [X81]; exact M81 8 (by decide) (by decide) (by decide)) ?_ ?_) (zCs_eq h5 ?_ ?_ ?_ ?_) ?_ ?_ (by rw [X81]; exact M81 11 (by decide) (by decide) (by decide)) (fun h hh => by rw [G (46 + h) (by omega) (by omega) (by omega) (by omega) (by omega) (by omega) (by omega) (by omega)]) (fun a ha _ => ?_) (fun a ha => b3 a (by omega))
  case refine_1 =>
    unfold zCn
    rw [X.1, X.2.1, X.2.2, X81, M3.1, M3.2.1, M3.2.2, G32 6 (by decide) (by decide) (by decide), M81 11 (by decide) (by decide) (by decide), M81 8 (by decide) (by decide) (by decide), G37]
    exact ⟨i2, i3, e3, i4, e5, ⟨i5.1, by omega⟩, i6, r11, i7, r8⟩
  case refine_2 =>
    intro h h9
    obtain ⟨p1, p2, p3, p4⟩ := hh h h9
    obtain ⟨w1, w2, w3, w4⟩ := i8 h h9
    rw [p1, p2, p3, p4]
    exact ⟨w1, w2, w3, w4⟩
  case refine_9 =>
    refine Or.inr ?_
    rw [X81, M3.1, M81 13 (by decide) (by decide) (by decide), M81 14 (by decide) (by decide) (by decide), M81 15 (by decide) (by decide) (by decide), M81 16 (by decide) (by decide) (by decide), M81 11 (by decide) (by decide) (by decide), G32 17 (by decide) (by decide) (by decide), G32 18 (by decide) (by decide) (by decide), G32 19 (by decide) (by decide) (by decide), G90, G 64 (by decide) (by decide) (by decide) (by decide) (by decide) (by decide) (by decide) (by decide), G 65 (by decide) (by decide) (by decide) (by decide) (by decide) (by decide) (by decide) (by decide), G 66 (by decide) (by decide) (by decide) (by decide) (by decide) (by decide) (by decide) (by decide)]
    exact ⟨i1, i2, i3, i4, ⟨i5.1, Int.le_refl _⟩, i6, i7, i8, i9⟩
  case refine_10 =>
    intro i hi
    rw [X81, M3.1] at hi
    obtain ⟨a, q1, q2, q3, q4, q5, q6, q7, q8, q9, q10⟩ := h7 i (by omega)
    have ea : N2 a = J2 a := by rw [N_ne a (by omega) (by omega) (by omega), M_ne a (by omega), K_ne a (by omega)]
    have e86 : N2 86 i = I 90 (18 + i) := by
      rw [d2 i (by omega), if_pos (by rw [z0]; omega), n90]
    obtain ⟨w1, w2⟩ := i9 i hi
    refine ⟨a, by rw [b2 i hi]; exact q1, q2, q3, ?_⟩
    rw [G 84 (by decide) (by decide) (by decide) (by decide) (by decide) (by decide) (by decide) (by decide), G 85 (by decide) (by decide) (by decide) (by decide) (by decide) (by decide) (by decide) (by decide), ea, b5 a 0 (by decide), b5 a 1 (by decide), b4 i a hi q1, if_pos (by rw [z0]; omega), a3 a (by omega) (by omega), e86, a3 66 (by decide) (by decide), w1]
    exact ⟨q4, q5, q6, q7, q8, rfl, w2⟩
  case refine_11 =>
    unfold zTa at ha
    by_cases c : a < 114
    · exact G a c (by omega) (by omega) (by omega) (by omega) (by omega) (by omega) (by omega)
    · rw [N_ne a (by omega) (by omega) (by omega), M_ne a (by omega), K_ne a (by omega), b7 a (by omega), a3 a (by omega) (by omega)]
  case refine_5 => exact fun a x y => G a (by omega) (by omega) (by omega) (by omega) (by omega) (by omega) (by omega) (by omega)
  all_goals exact G _ (by decide) (by decide) (by decide) (by decide) (by decide) (by decide) (by decide) (by decide)

/-! pure part: a programme ends -/
section
variable {n : Nat} {kd : zMK} {a : Nat} {I : zMI}
theorem g0_B90 (hW : zWkB n kd a = true) (ha : 114 ≤ a) : ∃ I3, f0_endProgramme_B90 n kd a I = some I3 ∧ (∀ b, b ≠ a → b ≠ 42 → I3 b = I b) ∧ (∀ j, j ≠ 6 → j ≠ 8 → j ≠ 9 → j ≠ 10 → I3 a j = I a j) ∧ (I3 a 6 = I a 6 + 1 ∧ I3 a 8 = 0 ∧ I3 a 9 = 0 ∧ I3 a 10 = 0) ∧ (∀ j, j ≠ 9 → j ≠ 12 → I3 42 j = I 42 j) ∧ I3 42 9 = I 42 9 + 1 ∧ I3 42 12 = if I 42 9 + 1 = I 42 4 then I 42 5 else I 42 12 := by
  have n42 : (42 : Nat) ≠ a := by omega
  have E : ∀ X : zMI, f0_endProgramme_B119 n kd a X = some (uI (uI (uI (uI X a 6 (X a 6 + 1)) a 8 0) a 9 0) a 10 0) := fun X => by
    unfold f0_endProgramme_B119
    rw [if_pos hW]
    rfl
  unfold f0_endProgramme_B90
  rw [zl_eq, uI_at, uI_off (show 4 ≠ 9 by decide), uI_off (show 5 ≠ 9 by decide), zl_eq]
  by_cases c : I 42 9 + 1 = I 42 4
  · rw [if_pos c, E]
    refine ⟨_, rfl, fun b x1 x2 => ?_, fun j x1 x2 x3 x4 => ?_, ⟨?_, ?_, ?_, ?_⟩, fun j x1 x2 => ?_, ?_, ?_⟩
    · rw [uI_ne x1, uI_ne x1, uI_ne x1, uI_ne x1, uI_ne x2, uI_ne x2]
    · rw [uI_off x4, uI_off x3, uI_off x2, uI_off x1, uI_ne n42.symm, uI_ne n42.symm]
    · rw [uI_off (by decide), uI_off (by decide), uI_off (by decide), uI_at, uI_ne n42.symm, uI_ne n42.symm]
    · rw [uI_off (by decide), uI_off (by decide), uI_at]
    · rw [uI_off (by decide), uI_at]
    · rw [uI_at]
    · rw [uI_ne n42, uI_ne n42, uI_ne n42, uI_ne n42, uI_off x2, uI_off x1]
    · rw [uI_ne n42, uI_ne n42, uI_ne n42, uI_ne n42, uI_off (by decide), uI_at]
    · rw [uI_ne n42, uI_ne n42, uI_ne n42, uI_ne n42, uI_at, if_pos c]
  · rw [if_neg c, E]
    refine ⟨_, rfl, fun b x1 x2 => ?_, fun j x1 x2 x3 x4 => ?_, ⟨?_, ?_, ?_, ?_⟩, fun j x1 x2 => ?_, ?_, ?_⟩
    · rw [uI_ne x1, uI_ne x1, uI_ne x1, uI_ne x1, uI_ne x2]
    · rw [uI_off x4, uI_off x3, uI_off x2, uI_off x1, uI_ne n42.symm]
    · rw [uI_off (by decide), uI_off (by decide), uI_off (by decide), uI_at, uI_ne n42.symm]
    · rw [uI_off (by decide), uI_off (by decide), uI_at]
    · rw [uI_off (by decide), uI_at]
    · rw [uI_at]
    · rw [uI_ne n42, uI_ne n42, uI_ne n42, uI_ne n42, uI_off x1]
    · rw [uI_ne n42, uI_ne n42, uI_ne n42, uI_ne n42, uI_at]
    · rw [uI_ne n42, uI_ne n42, uI_ne n42, uI_ne n42, uI_off (by decide), if_neg c]
/-- so: how the programme is; off: how many are told to be off -/
theorem g0_endP {so : Int32} (hW : zWkB n kd a = true) (ha : 114 ≤ a) (hso : (so = 0 ∧ I a 9 = 0 ∧ I a 10 = 0) ∨ (so = 1 ∧ I a 9 = 1 ∧ I a 10 = 0) ∨ (so = 2 ∧ I a 10 = 1)) (ho : 0 ≤ (I 42 8).toInt ∧ (I 42 8).toInt ≤ 40) :
    ∃ I3, f0_endProgramme n kd a I = some I3 ∧ (∀ b, b ≠ a → b ≠ 42 → b ≠ 45 → I3 b = I b) ∧ (∀ j, j ≠ 6 → j ≠ 8 → j ≠ 9 → j ≠ 10 → I3 a j = I a j) ∧ (I3 a 6 = I a 6 + 1 ∧ I3 a 8 = 0 ∧ I3 a 9 = 0 ∧ I3 a 10 = 0) ∧ (∀ j, j < 8 → I3 42 j = I 42 j) ∧ I3 42 9 = I 42 9 + 1 ∧ I3 42 12 = (if I 42 9 + 1 = I 42 4 then I 42 5 else I 42 12) ∧ I3 42 10 = (if so = 1 then I 42 10 + 1 else I 42 10) ∧ I3 42 11 = (if so = 2 then I 42 11 + 1 else I 42 11) ∧ I3 42 8 = (if so ≠ 0 ∧ (I 42 8).toInt < 40 then I 42 8 + 1 else I 42 8) ∧ ∀ k, I3 45 k = if so ≠ 0 ∧ (I 42 8).toInt < 40 ∧ k = (I 42 8).toInt.toNat then I 42 9 else I 45 k := by
  have n42 : (42 : Nat) ≠ a := by omega
  have n45 : (45 : Nat) ≠ a := by omega
  -- what comes behind the counting
  have B51 : ∀ X : zMI, (0 ≤ (X 42 8).toInt ∧ (X 42 8).toInt ≤ 40) → ∃ I3, f0_endProgramme_B51 n kd a X = some I3 ∧ (∀ b, b ≠ a → b ≠ 42 → b ≠ 45 → I3 b = X b) ∧ (∀ j, j ≠ 6 → j ≠ 8 → j ≠ 9 → j ≠ 10 → I3 a j = X a j) ∧ (I3 a 6 = X a 6 + 1 ∧ I3 a 8 = 0 ∧ I3 a 9 = 0 ∧ I3 a 10 = 0) ∧ (∀ j, j ≠ 8 → j ≠ 9 → j ≠ 12 → I3 42 j = X 42 j) ∧ I3 42 9 = X 42 9 + 1 ∧ I3 42 12 = (if X 42 9 + 1 = X 42 4 then X 42 5 else X 42 12) ∧ I3 42 8 = (if (X 42 8).toInt < 40 then X 42 8 + 1 else X 42 8) ∧ ∀ k, I3 45 k = if (X 42 8).toInt < 40 ∧ k = (X 42 8).toInt.toNat then X 42 9 else X 45 k := fun X hX => by
    unfold f0_endProgramme_B51
    rw [if_neg (by rw [zlt_iff, z0]; omega)]
    by_cases c : (X 42 8).toInt < 40
    · rw [if_neg (by rw [zle_iff, zn40i]; omega), if_pos (zib_ok hX.1 (by omega)), zl_eq, zl_eq, uI_ne (show 42 ≠ 45 by decide), zcl_iff]
      obtain ⟨I3, e1, e2, e3, e4, e5, e6, e7⟩ := g0_B90 (I := uI (uI X 45 (X 42 8).toInt.toNat (X 42 9)) 42 8 (X 42 8 + 1)) hW ha
      refine ⟨I3, e1, fun b x1 x2 x3 => by rw [e2 b x1 x2, uI_ne x2, uI_ne x3], fun j x1 x2 x3 x4 => by rw [e3 j x1 x2 x3 x4, uI_ne n42.symm, uI_ne n45.symm], ?_, fun j x1 x2 x3 => by rw [e5 j x2 x3, uI_off x1, uI_ne (by decide)], ?_, ?_, ?_, fun k => ?_⟩
      · rw [uI_ne n42.symm, uI_ne n45.symm] at e4
        exact e4
      · rw [e6, uI_off (by decide), uI_ne (by decide)]
      · rw [e7, uI_off (by decide), uI_off (by decide), uI_off (by decide), uI_off (by decide), uI_ne (by decide)]
      · rw [e5 8 (by decide) (by decide), uI_at, if_pos c]
      · rw [e2 45 n45 (by decide), uI_ne (by decide)]
        by_cases q : k = (X 42 8).toInt.toNat
        · rw [if_pos ⟨c, q⟩, q, uI_at]
        · rw [if_neg (fun x => q x.2), uI_off q]
    · rw [if_pos (by rw [zle_iff, zn40i]; omega)]
      obtain ⟨I3, e1, e2, e3, e4, e5, e6, e7⟩ := g0_B90 (I := X) hW ha
      exact ⟨I3, e1, fun b x1 x2 x3 => e2 b x1 x2, e3, e4, fun j x1 x2 x3 => e5 j x2 x3, e6, e7, by rw [e5 8 (by decide) (by decide), if_neg c], fun k => by rw [e2 45 n45 (by decide), if_neg (fun x => c x.1)]⟩
  have n10 : ¬ (1 : Int32) = 0 := by decide
  rcases hso with ⟨q0, q1, q2⟩ | ⟨q0, q1, q2⟩ | ⟨q0, q2⟩
  · obtain ⟨I3, e1, e2, e3, e4, e5, e6, e7⟩ := g0_B90 (I := I) hW ha
    subst q0
    refine ⟨I3, ?_, fun b x1 x2 x3 => e2 b x1 x2, e3, e4, fun j x => e5 j (by omega) (by omega), e6, e7, by rw [e5 10 (by decide) (by decide), if_neg (by decide)], by rw [e5 11 (by decide) (by decide), if_neg (by decide)], by rw [e5 8 (by decide) (by decide), if_neg (fun x => x.1 rfl)], fun k => by rw [e2 45 n45 (by decide), if_neg (fun x => x.1 rfl)]⟩
    unfold f0_endProgramme f0_endProgramme_B37
    rw [if_pos hW, if_pos q2, if_pos q1, if_pos hW, if_pos q2, if_pos q1]
    exact e1
  · obtain ⟨I3, e1, e2, e3, e4, e5, e6, e7, e8, e9⟩ := B51 (uI I 42 10 (I 42 10 + 1)) (by rw [uI_off (by decide)]; exact ho)
    simp (disch := omega) only [uI_off, uI_ne] at e4 e6 e7 e8 e9
    subst q0
    refine ⟨I3, ?_, fun b x1 x2 x3 => by rw [e2 b x1 x2 x3, uI_ne x2], fun j x1 x2 x3 x4 => by rw [e3 j x1 x2 x3 x4, uI_ne n42.symm], e4, fun j x => by rw [e5 j (by omega) (by omega) (by omega), uI_off (by omega)], e6, e7, by rw [e5 10 (by decide) (by decide) (by decide), uI_at, if_pos rfl], by rw [e5 11 (by decide) (by decide) (by decide), uI_off (by decide), if_neg (by decide)], ?_, fun k => ?_⟩
    · unfold f0_endProgramme f0_endProgramme_B37
      rw [if_pos hW, if_pos q2, if_neg (by rw [q1]; decide), zl_eq, if_pos hW, uI_ne n42.symm, if_pos q2, if_neg (by rw [q1]; decide)]
      exact e1
    · rw [e8]
      by_cases q : (I 42 8).toInt < 40
      · rw [if_pos q, if_pos ⟨n10, q⟩]
      · rw [if_neg q, if_neg (fun x => q x.2)]
    · rw [e9]
      by_cases q : (I 42 8).toInt < 40 ∧ k = (I 42 8).toInt.toNat
      · rw [if_pos q, if_pos ⟨n10, q⟩]
      · rw [if_neg q, if_neg (fun x => q x.2)]
  · obtain ⟨I3, e1, e2, e3, e4, e5, e6, e7, e8, e9⟩ := B51 (uI I 42 11 (I 42 11 + 1)) (by rw [uI_off (by decide)]; exact ho)
    simp (disch := omega) only [uI_off, uI_ne] at e4 e6 e7 e8 e9
    subst q0
    have n20 : ¬ (2 : Int32) = 0 := by decide
    refine ⟨I3, ?_, fun b x1 x2 x3 => by rw [e2 b x1 x2 x3, uI_ne x2], fun j x1 x2 x3 x4 => by rw [e3 j x1 x2 x3 x4, uI_ne n42.symm], e4, fun j x => by rw [e5 j (by omega) (by omega) (by omega), uI_off (by omega)], e6, e7, by rw [e5 10 (by decide) (by decide) (by decide), uI_off (by decide), if_neg (by decide)], by rw [e5 11 (by decide) (by decide) (by decide), uI_at, if_pos rfl], ?_, fun k => ?_⟩
    · unfold f0_endProgramme f0_endProgramme_B37
      rw [if_pos hW, if_neg (by rw [q2]; decide), zl_eq, if_pos hW, uI_ne n42.symm, if_neg (by rw [q2]; decide)]
      exact e1
    · rw [e8]
      by_cases q : (I 42 8).toInt < 40
      · rw [if_pos q, if_pos ⟨n20, q⟩]
      · rw [if_neg q, if_neg (fun x => q x.2)]
    · rw [e9]
      by_cases q : (I 42 8).toInt < 40 ∧ k = (I 42 8).toInt.toNat
      · rw [if_pos q, if_pos ⟨n20, q⟩]
      · rw [if_neg q, if_neg (fun x => q x.2)]
end
theorem g12_makes {w : Nat} {wi t : Int32} {J : zMI} (hw : w < 5) (ew : wi.toInt = (w : Int)) (hp : 0 ≤ (J 81 47).toInt ∧ (J 81 47).toInt < 400) :
    f12_makes wi t J = some (uI (uI (uI (uI (uI (uI J 110 (J 81 47).toInt.toNat (J 106 w)) 81 47 (J 81 47 + 1)) 81 48 (if J 81 47 + 1 = J 81 2 then t else J 81 48)) 104 w (J 104 w + 1)) 103 w 0) 106 w 0) := by
  have n1 : wi.toNatClampNeg = w := by rw [zcl_iff, ew]; omega
  unfold f12_makes
  rw [if_pos (zib_ok (by omega) (by omega)), if_pos (zib_ok hp.1 (by omega)), n1, zcl_iff, zl_eq, zl_eq, uI_ne (show 81 ≠ 110 by decide), uI_at, uI_off (show 2 ≠ 47 by decide), uI_off (show 48 ≠ 47 by decide), uI_ne (show 81 ≠ 110 by decide), zl_eq, zl_eq, uI_ne (show 104 ≠ 81 by decide), uI_ne (show 104 ≠ 81 by decide), uI_ne (show 104 ≠ 110 by decide)]
  rfl

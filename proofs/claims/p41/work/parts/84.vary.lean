/-! pure part: a going laid, and then changed on both sides -/
section
variable {n : Nat} {kd : zMK} {R : zMR} {L s t : Nat} {A : Nat → Nat} {I J : zMI}
/-- the class has laid plainly -/
def zlaid (L s : Nat) (A : Nat → Nat) (I : zMI) (R : zMR) (c : Int) (I1 : zMI) (R1 : zMR) : Prop := ∃ g : Nat, (g : Int) = c ∧ zXJ A (zob 5) (fun w => I (A w) 2) g I1 R1 ∧ zXh L I I1 R1 ∧ zFX A s I I1 ∧ ∀ b', b' ≠ 42 → b' ≠ 44 → R1 b' = R b'
theorem zlayP (hB : zB0 n kd R L s t A I J) : ∃ I1 R1, f11_layPlain n kd I R = some (I1, R1) ∧ zlaid L s A I R (J 81 3).toInt I1 R1 := by
  have r3 := hB.2.1.2.2.1
  obtain ⟨I1, R1, g, x1, x2, x3⟩ := zlayX hB (b := 5) (bt := -1) (znone r3.2)
  refine ⟨I1, R1, g11_plain x1, g, ?_, x3⟩
  rw [x2, if_neg (by omega)]
  omega
theorem zlayV (hB : zB0 n kd R L s t A I J) {I1 I1' J' : zMI} {R1 R1' : zMR} {L' s' t' : Nat} (hl : zlaid L s A I R (J 81 3).toInt I1 R1)
    (tI : ∀ b j, (∀ w, w < 5 → ¬ (b = A w ∧ j = 3)) → ¬ (46 ≤ b ∧ b ≤ 54 ∧ (j = 1 ∨ j = 2)) → I1' b j = I1 b j) (tw : ∀ w, w < (J 81 3).toInt.toNat → I1' (A w) 3 = J' 86 w ∧ (0 ≤ (J' 86 w).toInt ∧ (J' 86 w).toInt ≤ 8)) (th : ∀ h, h < 9 → I1' (46 + h) 1 = J' 82 h ∧ I1' (46 + h) 2 = J' 83 h ∧ (0 ≤ (J' 82 h).toInt ∧ (J' 82 h).toInt ≤ 200) ∧ (0 ≤ (J' 83 h).toInt ∧ (J' 83 h).toInt ≤ 9))
    (t84 : J' 84 = J 84) (t85 : J' 85 = J 85) (t81 : ∀ j, j < 34 → j ≠ 12 → J' 81 j = J 81 j) (tR : ∀ b j, b ≠ 42 → R1' b j = R1 b j) (tL : R1' 42 7 = some L' ∧ zLw n kd R1' L' s' I1' J' t' ∧ (J' 81 12).toInt = (t' : Int) ∧ t' < 6) :
    ∃ J0 J1, f12_orders (-1) J' = some J0 ∧ f12_begins J0 = some J1 ∧ zG n kd R1' L' s' t' A I1' J1 (5 * 0) 0 ∧ zFM J' J1 := by
  obtain ⟨g, hg, hX, hh, hF, hR⟩ := hl
  have r3 := hB.2.1.2.2.1
  have e3 : J' 81 3 = J 81 3 := t81 3 (by decide) (by decide)
  obtain ⟨J0, o1, o2, o3, o4, o5⟩ := g12_orders (b := 5) (bt := -1) (J := J') (by rw [e3]; exact r3) (by rw [e3]; exact znone r3.2)
  obtain ⟨J1, m1, m2, m3, m4, m5, m6, m7, m8⟩ := g12_begins J0
  have hM : zFM J' J1 := ⟨fun b' y1 y2 => by rw [m8 b' y1 (by omega), o5 b' y1 (by omega)], fun j hj => by rw [m7 j (by omega) (by omega) (by omega), o4 j (by omega)]⟩
  rw [e3, if_neg (by omega)] at o2
  have h34 : (J1 81 34).toInt = (g : Int) := by rw [m7 34 (by decide) (by decide) (by decide), o2, hg]; omega
  have h99 : ∀ k : Nat, (k : Int) < (J1 81 34).toInt → (J1 99 k).toInt = (zob 5 k : Nat) := fun k hk => by
    rw [m8 99 (by decide) (by decide)]
    rw [m7 34 (by decide) (by decide) (by decide)] at hk
    exact o3 k hk
  have hA := (zB0_A hB).2.1
  -- the class's rows for numbers of the going are as laid
  have i42 : ∀ j, I1' 42 j = I1 42 j := fun j => tI 42 j (fun w hw q => by have := hA w hw; omega) (by omega)
  have ia : ∀ w, w < (J 81 3).toInt.toNat → ∀ j, j ≠ 3 → I1' (A w) j = I1 (A w) j := fun w hw j hj => by
    have := zwl_big hB.1.1 (hB.2.2.1 w hw).2.1
    exact tI _ j (fun w' _ q => hj q.2) (by omega)
  obtain ⟨hX1, hX2⟩ := hX
  have ob : ∀ k, k < g → zob 5 k = k := fun k hk => by
    unfold zob
    rw [if_pos (by omega)]
  have go : ∀ w, zgo J1 w → w < g := fun w ⟨k, k1, k2⟩ => by
    rw [h99 k k1, ob k (by omega)] at k2
    omega
  have ho : zGo R1' A J1 := by
    refine ⟨by omega, fun k hk => ?_, fun k k' hk hk' e => ?_⟩
    · rw [h99 k hk, ob k (by omega), tR 44 k (by decide)]
      refine ⟨by omega, by omega, ?_⟩
      have := (hX2 k (by omega)).1
      rw [ob k (by omega)] at this
      rw [Int.toNat_natCast]
      exact this
    · rw [h99 k hk, h99 k' hk', ob k (by omega), ob k' (by omega)] at e
      omega
  obtain ⟨tL1, tL2, tL3, tL4⟩ := tL
  refine ⟨J0, J1, o1, m1, zGjoin ⟨tL1, ⟨tL2.1, zLx_eq tL2.2 rfl rfl rfl (hM.1 88 (by decide) (by decide)) (hM.1 89 (by decide) (by decide))⟩, by rw [hM.2 12 (by decide)]; exact tL3, tL4, ?_, ?_, ?_, ?_⟩ ho (fun w h5 q => ?_) (fun w h5 => (m2 w h5).2) (fun h h9 => ?_) ?_ ⟨m4, m5, m6⟩, hM⟩
  · rw [i42, hh.2.1.1, hB.2.1.1, hM.2 3 (by decide), e3]
  · rw [i42, hh.2.1.2.1, hB.2.1.2.1, hM.2 2 (by decide), t81 2 (by decide) (by decide)]
  · rw [i42, zeq_iff, h34, hX1]
  · rw [hM.2 2 (by decide), t81 2 (by decide) (by decide)]
    exact hB.2.1.2.2.2
  · have hwg := go w q
    have hwc : w < (J 81 3).toInt.toNat := by omega
    obtain ⟨w1, w2, w3, w4⟩ := hB.2.2.1 w hwc
    have bg := (hX2 w hwg).2
    rw [ob w hwg] at bg
    have e100 : J1 100 w = J' 86 w := by rw [(m2 w h5).1, o5 86 (by decide) (by decide)]
    obtain ⟨v1, v2⟩ := tw w hwc
    have i2 : ∀ j, j < 3 → I1' (A w) j = I (A w) j := fun j hj => by rw [ia w hwc j (by omega), hF.2.1 w j h5 hj]
    refine ⟨zwl_eq w2 (i2 0 (by decide)) (i2 1 (by decide)) (by rw [hM.1 84 (by decide) (by decide), t84]) (by rw [hM.1 85 (by decide) (by decide), t85]), ?_, by rw [e100]; exact v2⟩
    unfold zbegun at bg ⊢
    rw [e100, ← v1, ia w hwc 4 (by decide), ia w hwc 5 (by decide), ia w hwc 6 (by decide), ia w hwc 7 (by decide), ia w hwc 8 (by decide), ia w hwc 9 (by decide), ia w hwc 10 (by decide)]
    exact ⟨rfl, bg.2⟩
  · obtain ⟨y1, y2, y3, y4⟩ := th h h9
    obtain ⟨z1', z2', z3'⟩ := m3 h h9
    have e107 : J1 107 h = J' 82 h := by rw [z1', o5 82 (by decide) (by decide)]
    have e83 : J1 83 h = J' 83 h := by rw [hM.1 83 (by decide) (by decide)]
    have ih : ∀ j, j ≠ 1 → j ≠ 2 → I1' (46 + h) j = I1 (46 + h) j := fun j x1 x2 => tI _ j (fun w hw q => by have := hA w hw; omega) (by omega)
    have l0 := hh.1 h h9
    unfold zhl at l0 ⊢
    rw [e107, e83, ih 3 (by decide) (by decide), ih 4 (by decide) (by decide), ih 5 (by decide) (by decide), ih 6 (by decide) (by decide), ih 0 (by decide) (by decide)]
    exact ⟨⟨y1, y2, l0.2.2⟩, by rw [hF.2.2 h h9]; exact (hB.2.2.2.1 h h9).2.2.2.2, z2', z3', y3, y4⟩
  · rw [i42, i42, i42, i42, i42, i42]
    exact hh.2.1.2.2
/-- and gone -/
theorem zgoV {I1' J1 J' J0 : zMI} {R1' : zMR} {L' s' t' : Nat} (hX : zCx n kd A s') (h1 : f12_orders (-1) J' = some J0) (h2 : f12_begins J0 = some J1) (hG : zG n kd R1' L' s' t' A I1' J1 (5 * 0) 0) (hM : zFM J' J1) {sec : Int32} (hs : 0 ≤ sec.toInt ∧ sec.toInt ≤ 600) :
    ∃ I2 M, f0_pass n kd R1' sec I1' = some I2 ∧ f12_goesPlain sec J' = some M ∧ zG n kd R1' L' s' t' A I2 M (5 * sec.toInt) sec.toInt ∧ zFI A s' I1' I2 ∧ zFM J' M := by
  obtain ⟨I2, M, t'', y1, y2, y3, y4, y5, y6, y7⟩ := zpassL hX sec sec sec.toInt.toNat zF zF 0 0 I1' J1 (by rw [z0]; exact hG) (by rw [z0]; omega) (by rw [z0]; omega) (by rw [z0]; omega) (by rw [z0]; omega) hs.2 (by unfold zF; omega) (by unfold zF; omega)
  have et : t''.toInt = sec.toInt := by rw [y1, z0]; omega
  have ez : zF - sec.toInt.toNat = (zF - sec.toInt.toNat - 1) + 1 := by unfold zF; omega
  rw [ez, zfin et] at y3
  rw [et] at y4
  exact ⟨I2, M, y2, g12_plain h1 h2 y3, y4, y5, zFM_tr hM (zFM_J y6)⟩
theorem uI_self {a k : Nat} : uI I a k (I a k) = I := by
  funext b j
  by_cases c : b = a
  · by_cases c2 : j = k
    · rw [c, c2, uI_at]
    · rw [c, uI_off c2]
  · rw [uI_ne c]
theorem uI_twice {a k : Nat} {x y : Int32} : uI (uI I a k x) a k y = uI I a k y := by
  funext b j
  by_cases c : b = a
  · by_cases c2 : j = k
    · rw [c, c2, uI_at, uI_at]
    · rw [c, uI_off c2, uI_off c2, uI_off c2]
  · rw [uI_ne c, uI_ne c, uI_ne c]
end

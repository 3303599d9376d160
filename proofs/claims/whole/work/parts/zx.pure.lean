/-! pure part: at the beginning, and so always -/
def zPB (r : (Nat × zMK) × zMI × zMR) : Bool :=
  decide (r.2.1 32 4 = 0 ∧ r.2.1 81 3 = 0 ∧ r.2.1 32 2 = 20 ∧ r.2.1 81 2 = 20 ∧ r.2.1 32 6 = 1 ∧ r.2.1 81 11 = 1 ∧ r.2.1 32 7 = 0 ∧ r.2.1 81 12 = 0 ∧ r.2.1 37 1 = 0 ∧ r.2.1 81 8 = 0 ∧ r.2.1 81 13 = 0 ∧ r.2.1 32 18 = -1) &&
  (List.range 9).all (fun h => decide (r.2.1 33 h = 50 ∧ r.2.1 82 h = 50 ∧ r.2.1 34 h = 0 ∧ r.2.1 83 h = 0 ∧ r.2.1 (46 + h) 0 = Int32.ofNat h)) &&
  (List.range 4).all (fun s => decide (r.2.1 (73 + 2 * s) 0 = -1 ∧ r.2.1 91 s = -1 ∧ r.2.1 (73 + 2 * s) 1 = 0 ∧ r.2.1 92 s = 0) && (List.range 40).all (fun k => decide (r.2.1 (74 + 2 * s) k = r.2.1 93 (40 * s + k)))) &&
  (List.range 96).all (fun j => decide (r.2.1 95 j = zTw j)) &&
  decide (r.2.2 36 0 = some 67 ∧ r.2.2 67 2 = some 68 ∧ r.2.2 67 3 = some 69 ∧ r.2.2 67 4 = some 70 ∧ r.2.2 67 0 = some 71 ∧ r.2.2 67 1 = some 72) &&
  decide (r.2.1 72 0 = 0 ∧ r.2.1 72 1 = 1 ∧ r.2.1 72 2 = 2 ∧ r.2.1 72 3 = 3 ∧ r.2.1 89 0 = 0 ∧ r.2.1 89 1 = 1 ∧ r.2.1 89 2 = 2 ∧ r.2.1 89 3 = 3) &&
  decide (r.2.1 71 0 = 2 ∧ r.2.1 71 1 = 1 ∧ r.2.1 71 2 = 1 ∧ r.2.1 88 0 = 100002 ∧ r.2.1 88 1 = 100001 ∧ r.2.1 88 2 = 100001 ∧ r.2.1 70 0 = 2 ∧ r.2.1 70 1 = 1 ∧ r.2.1 70 2 = 1)
theorem zPB_all : (match zMM with | some r => zPB r | none => false) = true := by decide +kernel
theorem zPB_1 : zPB zM1 = true := by
  have h := zPB_all
  unfold zM1
  generalize zMM = o at h ⊢
  cases o with
  | none => cases h
  | some r => exact h
theorem zC_begin : zC zT0 zM1.1.1 zM1.1.2 zM1.2.1 zM1.2.2 := by
  obtain ⟨e114, hS, -⟩ := zM1_all
  have h := zPB_1
  unfold zPB at h
  simp only [Bool.and_eq_true, decide_eq_true_eq, List.all_eq_true, List.mem_range] at h
  obtain ⟨⟨⟨⟨⟨⟨⟨a1, a2, a3, a4, a5, a6, a7, a8, a9, a10, a11, a12⟩, b⟩, c⟩, d⟩, e1, e2, e3, e4, e5, e6⟩, f0, f1, f2, f3, g0, g1, g2, g3⟩, i0, i1, i2, j0, j1, j2, l0, l1, l2⟩ := h
  generalize zM1.1.1 = n at *
  generalize zM1.1.2 = kd at *
  generalize zM1.2.1 = I at *
  generalize zM1.2.2 = R at *
  have k : ∀ a, 32 ≤ a → a < 114 → kd a = zK0 a := hS.2
  have k67 : kd 67 = (19, 0) := k 67 (by decide) (by decide)
  have k68 : kd 68 = (0, 40) := k 68 (by decide) (by decide)
  have k69 : kd 69 = (0, 6) := k 69 (by decide) (by decide)
  have k70 : kd 70 = (0, 3) := k 70 (by decide) (by decide)
  have k71 : kd 71 = (0, 3) := k 71 (by decide) (by decide)
  have k72 : kd 72 = (0, 4) := k 72 (by decide) (by decide)
  refine ⟨hS, ?_, fun h hh => ?_, fun k hk => ?_, fun s hs => ?_, Or.inl ⟨a11, a12⟩, fun i hi => ?_, fun h hh => (b h hh).2.2.2.2, d, fun t ht => ?_⟩
  · unfold zCn
    rw [a1, a2, a3, a4, a5, a6, a7, a8, a9, a10]
    exact ⟨rfl, rfl, rfl, rfl, rfl, by decide, by decide, by decide, by decide, by decide⟩
  · obtain ⟨x1, x2, x3, x4, -⟩ := b h hh
    rw [x1, x2, x3, x4]
    exact ⟨rfl, by decide, rfl, by decide⟩
  · rw [a10] at hk
    exact absurd hk (by rw [z0]; exact Nat.not_lt_zero k)
  · obtain ⟨⟨x1, x2, x3, x4⟩, x5⟩ := c s hs
    rw [x1, x2, x3, x4]
    exact ⟨rfl, rfl, by decide, by decide, x5⟩
  · rw [a2] at hi
    exact absurd hi (by rw [z0]; exact Nat.not_lt_zero i)
  · rw [a6, z1] at ht
    have t0 : t = 0 := by omega
    subst t0
    refine ⟨67, 68, e1, ⟨zKd_ok (by decide) (by omega) (by rw [k67]), Or.inl ⟨rfl, rfl⟩, by omega, k68, k69, k70, by rw [k71], by rw [k71]; decide, k72, e2, e3, e4, e5, e6⟩, ?_⟩
    rw [show 68 + 3 = 71 from rfl, k71]
    refine ⟨fun p hp => ?_, ?_, ?_, ?_, ?_, ?_, fun j hj => ?_, fun p hp => ?_, fun p hp => ?_⟩
    · rcases (show p = 0 ∨ p = 1 ∨ p = 2 ∨ p = 3 by omega) with q | q | q | q <;> subst q
      · exact f0.trans g0.symm
      · exact f1.trans g1.symm
      · exact f2.trans g2.symm
      · exact f3.trans g3.symm
    · show 0 ≤ (I 72 0).toInt
      rw [f0]; decide
    · show (I 72 0).toInt < (I 72 1).toInt
      rw [f0, f1]; decide
    · show (I 72 1).toInt < (I 72 2).toInt
      rw [f1, f2]; decide
    · show (I 72 2).toInt < (I 72 3).toInt
      rw [f2, f3]; decide
    · show (I 72 3).toInt = 3
      rw [f3]; rfl
    · have hj' : j < 3 := hj
      rcases (show j = 0 ∨ j = 1 ∨ j = 2 by omega) with q | q | q <;> subst q
      · show zwk (I 71 0) ∧ I 88 0 = zw2c (I 71 0)
        rw [i0, j0]
        exact ⟨by unfold zwk; decide, by decide +kernel⟩
      · show zwk (I 71 1) ∧ I 88 1 = zw2c (I 71 1)
        rw [i1, j1]
        exact ⟨by unfold zwk; decide, by decide +kernel⟩
      · show zwk (I 71 2) ∧ I 88 2 = zw2c (I 71 2)
        rw [i2, j2]
        exact ⟨by unfold zwk; decide, by decide +kernel⟩
    · have one : ∀ v : Int32, zne v = 0 → ∀ (f : Nat → Int32) (i : Nat), f i = v → zdp f 1 i 0 := fun v hv f i hf => by
        show zne (f i) ≤ 0 ∧ 0 < 40 ∧ 0 - zne (f i) + 1 = 1
        rw [hf, hv]
        exact ⟨Nat.le_refl _, by decide, rfl⟩
      rcases (show p = 0 ∨ p = 1 ∨ p = 2 by omega) with q | q | q <;> subst q
      · show zdp (I 71) ((I 72 1).toInt.toNat - (I 72 0).toInt.toNat) (I 72 0).toInt.toNat 0
        rw [f0, f1]
        exact one 2 (by decide) _ _ i0
      · show zdp (I 71) ((I 72 2).toInt.toNat - (I 72 1).toInt.toNat) (I 72 1).toInt.toNat 0
        rw [f1, f2]
        exact one 1 (by decide) _ _ i1
      · show zdp (I 71) ((I 72 3).toInt.toNat - (I 72 2).toInt.toNat) (I 72 2).toInt.toNat 0
        rw [f2, f3]
        exact one 1 (by decide) _ _ i2
    · rcases (show p = 0 ∨ p = 1 ∨ p = 2 by omega) with q | q | q <;> subst q
      · show I 70 0 = if (I 72 1).toInt = (I 72 0).toInt + 1 ∧ 0 ≤ (I 71 (I 72 0).toInt.toNat).toInt then zBd 0 (I 71 (I 72 0).toInt.toNat) else -1
        rw [f0, f1, show (0 : Int32).toInt.toNat = 0 from rfl, i0, l0]
        decide
      · show I 70 1 = if (I 72 2).toInt = (I 72 1).toInt + 1 ∧ 0 ≤ (I 71 (I 72 1).toInt.toNat).toInt then zBd 1 (I 71 (I 72 1).toInt.toNat) else -1
        rw [f1, f2, show (1 : Int32).toInt.toNat = 1 from rfl, i1, l1]
        decide
      · show I 70 2 = if (I 72 3).toInt = (I 72 2).toInt + 1 ∧ 0 ≤ (I 71 (I 72 2).toInt.toNat).toInt then zBd 2 (I 71 (I 72 2).toInt.toNat) else -1
        rw [f2, f3, show (2 : Int32).toInt.toNat = 2 from rfl, i2, l2]
        decide
theorem zpure (L : Nat) (xs : Nat → Int32) (hL : L ≤ 3584) : ∃ r, fL_law L xs zM1.1.1 zM1.1.2 zM1.2.1 zM1.2.2 = some r ∧ r.1 = 1 := by
  unfold fL_law
  exact zloop (C := zC zT0) (fun n kd I R h => h.1) zH0_ok (zH1_ok zT0_q) zH2_ok (zH3_ok zT0_q) zH4_ok (zH5_ok zT0_q) zH6_ok (zH7_ok zT0_q) (zH8_ok zT0_q) zH9_ok zH10_ok zH11_ok zH12_ok zH13_ok zH14_ok zH15_ok zH16_ok zH17_ok zH18_ok zH19_ok zH20_ok zH21_ok zH22_ok zH23_ok zH24_ok zH25_ok zH26_ok zH27_ok zH28_ok zH29_ok zH30_ok (zH31_ok zT0_q) (zH32_ok zT0_q) (zH33_ok zT0_q) (zH34_ok zT0_q) (zH35_ok zT0_q) (zH36_ok zT0_q) zH37_ok hL 513 0 _ _ _ _ zC_begin (by rw [z0]; omega) (by rw [z0]; omega) (by rw [z0]; omega)

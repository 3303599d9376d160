/-! pure part: at the beginning, with what the reference would hold -/
def zJ0 : zMI := fun a k => if a = 81 then (if k = 2 then 20 else if k = 11 then 1 else 0) else if a = 82 then 50 else if a = 88 then (if k = 0 then 100002 else if k < 3 then 100001 else 0) else if a = 89 then (if k < 4 then Int32.ofNat k else 0) else if a = 91 then -1 else if a = 95 then zTw k else 0
def zPB (r : (Nat × zMK) × zMI × zMR) : Bool :=
  decide (r.2.1 32 4 = 0 ∧ r.2.1 32 2 = 20 ∧ r.2.1 32 6 = 1 ∧ r.2.1 32 7 = 0 ∧ r.2.1 37 1 = 0 ∧ r.2.1 32 18 = -1) &&
  (List.range 9).all (fun h => decide (r.2.1 33 h = 50 ∧ r.2.1 34 h = 0 ∧ r.2.1 (46 + h) 0 = Int32.ofNat h)) &&
  (List.range 4).all (fun s => decide (r.2.1 (73 + 2 * s) 0 = -1 ∧ r.2.1 (73 + 2 * s) 1 = 0) && (List.range 40).all (fun k => decide (r.2.1 (74 + 2 * s) k = 0))) &&
  decide (r.2.2 36 0 = some 67 ∧ r.2.2 67 2 = some 68 ∧ r.2.2 67 3 = some 69 ∧ r.2.2 67 4 = some 70 ∧ r.2.2 67 0 = some 71 ∧ r.2.2 67 1 = some 72) &&
  decide (r.2.1 72 0 = 0 ∧ r.2.1 72 1 = 1 ∧ r.2.1 72 2 = 2 ∧ r.2.1 72 3 = 3) &&
  decide (r.2.1 71 0 = 2 ∧ r.2.1 71 1 = 1 ∧ r.2.1 71 2 = 1 ∧ r.2.1 70 0 = 2 ∧ r.2.1 70 1 = 1 ∧ r.2.1 70 2 = 1)
theorem zPB_all : (match zMX with | some r => zPB r | none => false) = true := by decide +kernel
theorem zPB_1 : zPB zX1 = true := by
  have h := zPB_all
  have e := zMX_some.1
  rw [e] at h
  exact h
theorem zC_begin : zC zT0 114 zB1k (zB1I zJ0) zB1R := by
  have hS := zB1_sh
  have h := zPB_1
  unfold zPB at h
  simp only [Bool.and_eq_true, decide_eq_true_eq, List.all_eq_true, List.mem_range] at h
  obtain ⟨⟨⟨⟨⟨⟨a1, a3, a5, a7, a9, a12⟩, b0⟩, c0⟩, e0⟩, f0, f1, f2, f3⟩, i0, i1, i2, l0, l1, l2⟩ := h
  have lo : ∀ a, a < 81 → zB1I zJ0 a = zX1.2.1 a := fun a ha => by unfold zB1I; rw [if_pos ha]
  have hi : ∀ a, 81 ≤ a → zB1I zJ0 a = zJ0 a := fun a ha => by unfold zB1I; rw [if_neg (by omega)]
  have lr : ∀ a, a < 81 → zB1R a = zX1.2.2 a := fun a ha => by funext k; unfold zB1R; rw [if_pos ha]
  rw [← lo 32 (by decide)] at a1 a3 a5 a7 a12
  rw [← lo 37 (by decide)] at a9
  rw [← lo 72 (by decide)] at f0 f1 f2 f3
  rw [← lo 71 (by decide)] at i0 i1 i2
  rw [← lo 70 (by decide)] at l0 l1 l2
  rw [← lr 36 (by decide), ← lr 67 (by decide)] at e0
  obtain ⟨e1, e2, e3, e4, e5, e6⟩ := e0
  have a2 : zB1I zJ0 81 3 = 0 := by rw [hi 81 (by decide)]; rfl
  have a4 : zB1I zJ0 81 2 = 20 := by rw [hi 81 (by decide)]; rfl
  have a6 : zB1I zJ0 81 11 = 1 := by rw [hi 81 (by decide)]; rfl
  have a8 : zB1I zJ0 81 12 = 0 := by rw [hi 81 (by decide)]; rfl
  have a10 : zB1I zJ0 81 8 = 0 := by rw [hi 81 (by decide)]; rfl
  have a11 : zB1I zJ0 81 13 = 0 := by rw [hi 81 (by decide)]; rfl
  have b : ∀ h, h < 9 → zB1I zJ0 33 h = 50 ∧ zB1I zJ0 82 h = 50 ∧ zB1I zJ0 34 h = 0 ∧ zB1I zJ0 83 h = 0 ∧ zB1I zJ0 (46 + h) 0 = Int32.ofNat h := fun h hh => by
    rw [lo 33 (by decide), lo 34 (by decide), lo (46 + h) (by omega), hi 82 (by decide), hi 83 (by decide)]
    exact ⟨(b0 h hh).1, rfl, (b0 h hh).2.1, rfl, (b0 h hh).2.2⟩
  have c : ∀ s, s < 4 → (zB1I zJ0 (73 + 2 * s) 0 = -1 ∧ zB1I zJ0 91 s = -1 ∧ zB1I zJ0 (73 + 2 * s) 1 = 0 ∧ zB1I zJ0 92 s = 0) ∧ ∀ k, k < 40 → zB1I zJ0 (74 + 2 * s) k = zB1I zJ0 93 (40 * s + k) := fun s hs => by
    rw [lo (73 + 2 * s) (by omega), lo (74 + 2 * s) (by omega), hi 91 (by decide), hi 92 (by decide), hi 93 (by decide)]
    exact ⟨⟨(c0 s hs).1.1, rfl, (c0 s hs).1.2, rfl⟩, fun k hk => (c0 s hs).2 k hk⟩
  have d : ∀ j, j < 96 → zB1I zJ0 95 j = zTw j := fun j _ => by rw [hi 95 (by decide)]; rfl
  have g : zB1I zJ0 89 0 = 0 ∧ zB1I zJ0 89 1 = 1 ∧ zB1I zJ0 89 2 = 2 ∧ zB1I zJ0 89 3 = 3 := by rw [hi 89 (by decide)]; decide
  have j : zB1I zJ0 88 0 = 100002 ∧ zB1I zJ0 88 1 = 100001 ∧ zB1I zJ0 88 2 = 100001 := by rw [hi 88 (by decide)]; decide
  obtain ⟨g0, g1, g2, g3⟩ := g
  obtain ⟨j0, j1, j2⟩ := j
  have e114 : (114 : Nat) = 114 := rfl
  generalize zB1k = kd at *
  generalize zB1I zJ0 = I at *
  generalize zB1R = R at *
  have k : ∀ a, 32 ≤ a → a < 114 → kd a = zK0 a := hS.2
  have k67 : kd 67 = (19, 0) := k 67 (by decide) (by decide)
  have k68 : kd 68 = (0, 40) := k 68 (by decide) (by decide)
  have k69 : kd 69 = (0, 6) := k 69 (by decide) (by decide)
  have k70 : kd 70 = (0, 3) := k 70 (by decide) (by decide)
  have k71 : kd 71 = (0, 3) := k 71 (by decide) (by decide)
  have k72 : kd 72 = (0, 4) := k 72 (by decide) (by decide)
  refine ⟨hS, ?_, fun h hh => ?_, fun k hk => ?_, fun s hs => ?_, Or.inl ⟨a11, a12⟩, fun i hi => ?_, fun h hh => (b h hh).2.2.2.2, d, fun t ht => ?_⟩
  · unfold zCn
    rw [a1, a2, a3, a4, a5, a6, a7, a8, a9, a10]
    exact ⟨rfl, rfl, rfl, rfl, rfl, by decide, by decide, by decide, by decide, by decide⟩
  · obtain ⟨x1, x2, x3, x4, -⟩ := b h hh
    rw [x1, x2, x3, x4]
    exact ⟨rfl, by decide, rfl, by decide⟩
  · rw [a10] at hk
    exact absurd hk (by rw [z0]; exact Nat.not_lt_zero k)
  · obtain ⟨⟨x1, x2, x3, x4⟩, x5⟩ := c s hs
    rw [x1, x2, x3, x4]
    exact ⟨rfl, rfl, by decide, by decide, x5⟩
  · rw [a2] at hi
    exact absurd hi (by rw [z0]; exact Nat.not_lt_zero i)
  · rw [a6, z1] at ht
    have t0 : t = 0 := by omega
    subst t0
    refine ⟨67, 68, e1, ⟨zKd_ok (by decide) (by omega) (by rw [k67]), Or.inl ⟨rfl, rfl⟩, by omega, k68, k69, k70, by rw [k71], by rw [k71]; decide, k72, e2, e3, e4, e5, e6⟩, ?_⟩
    rw [show 68 + 3 = 71 from rfl, k71]
    refine ⟨fun p hp => ?_, ?_, ?_, ?_, ?_, ?_, fun j hj => ?_, fun p hp => ?_, fun p hp => ?_⟩
    · rcases (show p = 0 ∨ p = 1 ∨ p = 2 ∨ p = 3 by omega) with q | q | q | q <;> subst q
      · exact f0.trans g0.symm
      · exact f1.trans g1.symm
      · exact f2.trans g2.symm
      · exact f3.trans g3.symm
    · show 0 ≤ (I 72 0).toInt
      rw [f0]; decide
    · show (I 72 0).toInt < (I 72 1).toInt
      rw [f0, f1]; decide
    · show (I 72 1).toInt < (I 72 2).toInt
      rw [f1, f2]; decide
    · show (I 72 2).toInt < (I 72 3).toInt
      rw [f2, f3]; decide
    · show (I 72 3).toInt = 3
      rw [f3]; rfl
    · have hj' : j < 3 := hj
      rcases (show j = 0 ∨ j = 1 ∨ j = 2 by omega) with q | q | q <;> subst q
      · show zwk (I 71 0) ∧ I 88 0 = zw2c (I 71 0)
        rw [i0, j0]
        exact ⟨by unfold zwk; decide, by decide +kernel⟩
      · show zwk (I 71 1) ∧ I 88 1 = zw2c (I 71 1)
        rw [i1, j1]
        exact ⟨by unfold zwk; decide, by decide +kernel⟩
      · show zwk (I 71 2) ∧ I 88 2 = zw2c (I 71 2)
        rw [i2, j2]
        exact ⟨by unfold zwk; decide, by decide +kernel⟩
    · have one : ∀ v : Int32, zne v = 0 → ∀ (f : Nat → Int32) (i : Nat), f i = v → zdp f 1 i 0 := fun v hv f i hf => by
        show zne (f i) ≤ 0 ∧ 0 < 40 ∧ 0 - zne (f i) + 1 = 1
        rw [hf, hv]
        exact ⟨Nat.le_refl _, by decide, rfl⟩
      rcases (show p = 0 ∨ p = 1 ∨ p = 2 by omega) with q | q | q <;> subst q
      · show zdp (I 71) ((I 72 1).toInt.toNat - (I 72 0).toInt.toNat) (I 72 0).toInt.toNat 0
        rw [f0, f1]
        exact one 2 (by decide) _ _ i0
      · show zdp (I 71) ((I 72 2).toInt.toNat - (I 72 1).toInt.toNat) (I 72 1).toInt.toNat 0
        rw [f1, f2]
        exact one 1 (by decide) _ _ i1
      · show zdp (I 71) ((I 72 3).toInt.toNat - (I 72 2).toInt.toNat) (I 72 2).toInt.toNat 0
        rw [f2, f3]
        exact one 1 (by decide) _ _ i2
    · rcases (show p = 0 ∨ p = 1 ∨ p = 2 by omega) with q | q | q <;> subst q
      · show I 70 0 = if (I 72 1).toInt = (I 72 0).toInt + 1 ∧ 0 ≤ (I 71 (I 72 0).toInt.toNat).toInt then zBd 0 (I 71 (I 72 0).toInt.toNat) else -1
        rw [f0, f1, show (0 : Int32).toInt.toNat = 0 from rfl, i0, l0]
        decide
      · show I 70 1 = if (I 72 2).toInt = (I 72 1).toInt + 1 ∧ 0 ≤ (I 71 (I 72 1).toInt.toNat).toInt then zBd 1 (I 71 (I 72 1).toInt.toNat) else -1
        rw [f1, f2, show (1 : Int32).toInt.toNat = 1 from rfl, i1, l1]
        decide
      · show I 70 2 = if (I 72 3).toInt = (I 72 2).toInt + 1 ∧ 0 ≤ (I 71 (I 72 2).toInt.toNat).toInt then zBd 2 (I 71 (I 72 2).toInt.toNat) else -1
        rw [f2, f3, show (2 : Int32).toInt.toNat = 2 from rfl, i2, l2]
        decide

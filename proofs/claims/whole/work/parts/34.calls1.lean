/-! pure part: count, set, heap, force -/
theorem zH0_ok {T : Nat → zMK → zMI → zMR → Prop} : zH0 (zC T) := fun n kd I R a1 hC => by
  obtain ⟨e1, e2, e3, e4, e5, -⟩ := hC.2.1
  have h : f11_count I a1 = f12_count I a1 := by
    unfold f11_count f12_count
    rw [e1, e2, e3, e4, e5]
  have h2 : ∃ p, f12_count I a1 = some p := by
    unfold f12_count
    repeat' split
    all_goals exact ⟨_, rfl⟩
  obtain ⟨p, hp⟩ := h2
  exact ⟨p, h.trans hp, p, hp, rfl, hC⟩
def zs_heap (ah ak : Nat) (h v : Int32) (I : zMI) : Int32 :=
  if ¬ (0 ≤ h.toInt ∧ h.toInt ≤ 8) then -6
  else if v = 0 then I ah h.toNatClampNeg else if v = 1 then I ak h.toNatClampNeg else -7
theorem g12_heap (h v : Int32) (I : zMI) : f12_heap I h v = some (zs_heap 82 83 h v I) := by
  unfold f12_heap zs_heap
  simp only [g12_isHeap, zb_some, zl_eq, zB_0]
  simp only [zlt_iff, zle_iff, zeq_iff, zibT, Int32.reduceToInt]
  repeat' split
  all_goals first | rfl | (exfalso; omega) | (exfalso; simp only [Int32.reduceToInt] at *; omega)
theorem g11_heap (h v : Int32) (I : zMI) : f11_heap I h v = some (zs_heap 33 34 h v I) := by
  unfold f11_heap zs_heap
  simp only [g11_noHeap, zb_some, zl_eq, zB_0]
  simp only [zlt_iff, zle_iff, zeq_iff, zibT, Int32.reduceToInt]
  repeat' split
  all_goals first | rfl | (exfalso; omega) | (exfalso; simp only [Int32.reduceToInt] at *; omega)
theorem zH2_ok {T : Nat → zMK → zMI → zMR → Prop} : zH2 (zC T) := fun n kd I R a1 a2 hC => by
  refine ⟨_, g11_heap a1 a2 I, _, g12_heap a1 a2 I, ?_, hC⟩
  unfold zs_heap
  by_cases c : 0 ≤ a1.toInt ∧ a1.toInt ≤ 8
  · have hh := hC.2.2.1 a1.toNatClampNeg (by rw [zcl_iff]; omega)
    rw [hh.1, hh.2.2.1]
  · rw [if_pos c, if_pos c]
theorem zH1_ok {T : Nat → zMK → zMI → zMR → Prop} (hT : zTq T) : zH1 (zC T) := fun n kd I R a1 a2 a3 hC => by
  refine ⟨_, g11_set hC.1 a1 a2 a3 I, _, g12_set a1 a2 a3 _, ?_⟩
  by_cases c1 : ¬ (0 ≤ a1.toInt ∧ a1.toInt ≤ 2)
  · unfold zs_set
    simp only [if_pos c1]
    exact ⟨trivial, hC⟩
  unfold zs_set
  simp only [if_neg c1]
  by_cases c2 : a1 = 2
  · simp only [if_pos c2]
    by_cases c3 : 1 ≤ a3.toInt ∧ a3.toInt ≤ 200
    · simp only [if_pos c3]
      rw [uI_ne (show (81 : Nat) ≠ 32 by decide)]
      refine ⟨hC.2.1.2.1, ?_⟩
      have x32 : uI (uI I 32 2 a3) 81 2 a3 32 = uI I 32 2 a3 32 := uI_ne (by decide)
      have y81 : ∀ k, k ≠ 2 → uI (uI I 32 2 a3) 81 2 a3 81 k = I 81 k := fun k hk => by rw [uI_off hk, uI_ne (by decide)]
      have y32 : ∀ k, k ≠ 2 → uI (uI I 32 2 a3) 81 2 a3 32 k = I 32 k := fun k hk => by rw [x32, uI_off hk]
      have x37 : uI (uI I 32 2 a3) 81 2 a3 37 = I 37 := by rw [uI_ne (by decide), uI_ne (by decide)]
      refine zC_fields hT hC (fun a h1 h2 => by rw [uI_ne h2, uI_ne h1]) ?_ (y81 3 (by decide)) (y81 8 (by decide)) ?_
      · have h := hC.2.1
        unfold zCn at h ⊢
        rw [y32 4 (by decide), y32 6 (by decide), y32 7 (by decide), y81 3 (by decide), y81 11 (by decide), y81 12 (by decide), y81 8 (by decide), x37, x32, uI_at, uI_at]
        exact ⟨h.1, rfl, h.2.2.1, h.2.2.2.1, h.2.2.2.2.1, h.2.2.2.2.2.1, c3, h.2.2.2.2.2.2.2⟩
      · have h := hC.2.2.2.2.2.1
        unfold zCi at h ⊢
        rw [y32 18 (by decide), y32 17 (by decide), y32 19 (by decide), y81 13 (by decide), y81 14 (by decide), y81 15 (by decide), y81 16 (by decide), uI_ne (show (64 : Nat) ≠ 81 by decide), uI_ne (show (64 : Nat) ≠ 32 by decide), uI_ne (show (65 : Nat) ≠ 81 by decide), uI_ne (show (65 : Nat) ≠ 32 by decide), uI_ne (show (66 : Nat) ≠ 81 by decide), uI_ne (show (66 : Nat) ≠ 32 by decide), uI_ne (show (90 : Nat) ≠ 81 by decide), uI_ne (show (90 : Nat) ≠ 32 by decide)]
        exact h
    · simp only [if_neg c3]
      exact ⟨trivial, hC⟩
  simp only [if_neg c2]
  by_cases c4 : ¬ (0 ≤ a2.toInt ∧ a2.toInt ≤ 8)
  · simp only [if_pos c4]
    exact ⟨trivial, hC⟩
  simp only [if_neg c4]
  have hi : a2.toNatClampNeg < 9 := by rw [zcl_iff]; omega
  have hh := hC.2.2.1
  by_cases c5 : a1 = 0
  · simp only [if_pos c5]
    by_cases c6 : 0 ≤ a3.toInt ∧ a3.toInt ≤ 200
    · simp only [if_pos c6]
      rw [uI_ne (show (82 : Nat) ≠ 33 by decide)]
      refine ⟨(hh _ hi).1, zC_heaps hT hC (fun a h1 h2 h3 h4 => by rw [uI_ne h3, uI_ne h1]) fun h h9 => ?_⟩
      rw [uI_ne (show (33 : Nat) ≠ 82 by decide), uI_ne (show (34 : Nat) ≠ 82 by decide), uI_ne (show (34 : Nat) ≠ 33 by decide), uI_ne (show (83 : Nat) ≠ 82 by decide), uI_ne (show (83 : Nat) ≠ 33 by decide)]
      by_cases e : h = a2.toNatClampNeg
      · rw [e, uI_at, uI_at]
        exact ⟨rfl, c6, (hh _ hi).2.2⟩
      · rw [uI_off e, uI_off e, uI_ne (show (82 : Nat) ≠ 33 by decide)]
        exact hh h h9
    · simp only [if_neg c6]
      exact ⟨trivial, hC⟩
  · simp only [if_neg c5]
    by_cases c6 : 0 ≤ a3.toInt ∧ a3.toInt ≤ 9
    · simp only [if_pos c6]
      rw [uI_ne (show (83 : Nat) ≠ 34 by decide)]
      refine ⟨(hh _ hi).2.2.1, zC_heaps hT hC (fun a h1 h2 h3 h4 => by rw [uI_ne h4, uI_ne h2]) fun h h9 => ?_⟩
      rw [uI_ne (show (34 : Nat) ≠ 83 by decide), uI_ne (show (33 : Nat) ≠ 83 by decide), uI_ne (show (33 : Nat) ≠ 34 by decide), uI_ne (show (82 : Nat) ≠ 83 by decide), uI_ne (show (82 : Nat) ≠ 34 by decide)]
      by_cases e : h = a2.toNatClampNeg
      · rw [e, uI_at, uI_at]
        exact ⟨(hh _ hi).1, (hh _ hi).2.1, rfl, c6⟩
      · rw [uI_off e, uI_off e, uI_ne (show (83 : Nat) ≠ 34 by decide)]
        exact hh h h9
    · simp only [if_neg c6]
      exact ⟨trivial, hC⟩

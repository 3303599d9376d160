/-! pure part: count, set, heap, force -/
theorem zH0_ok {T : Nat → zMK → zMI → zMR → Prop} : zH0 (zC T) := fun n kd I R a1 hC => by
  obtain ⟨e1, e2, e3, e4, e5, -⟩ := hC.2.1
  have h : f11_count I a1 = f12_count I a1 := by
    unfold f11_count f12_count
    rw [e1, e2, e3, e4, e5]
  have h2 : ∃ p, f12_count I a1 = some p := by
    unfold f12_count
    repeat' split
    all_goals exact ⟨_, rfl⟩
  obtain ⟨p, hp⟩ := h2
  exact ⟨p, h.trans hp, p, hp, rfl, hC⟩
def zs_heap (ah ak : Nat) (h v : Int32) (I : zMI) : Int32 :=
  if ¬ (0 ≤ h.toInt ∧ h.toInt ≤ 8) then -6
  else if v = 0 then I ah h.toNatClampNeg else if v = 1 then I ak h.toNatClampNeg else -7
theorem g12_heap (h v : Int32) (I : zMI) : f12_heap I h v = some (zs_heap 82 83 h v I) := by
  unfold f12_heap zs_heap
  simp only [g12_isHeap, zb_some, zl_eq, zB_0]
  simp only [zlt_iff, zle_iff, zeq_iff, zibT, Int32.reduceToInt]
  repeat' split
  all_goals first | rfl | (exfalso; omega) | (exfalso; simp only [Int32.reduceToInt] at *; omega)
theorem g11_heap (h v : Int32) (I : zMI) : f11_heap I h v = some (zs_heap 33 34 h v I) := by
  unfold f11_heap zs_heap
  simp only [g11_noHeap, zb_some, zl_eq, zB_0]
  simp only [zlt_iff, zle_iff, zeq_iff, zibT, Int32.reduceToInt]
  repeat' split
  all_goals first | rfl | (exfalso; omega) | (exfalso; simp only [Int32.reduceToInt] at *; omega)
theorem zH2_ok {T : Nat → zMK → zMI → zMR → Prop} : zH2 (zC T) := fun n kd I R a1 a2 hC => by
  refine ⟨_, g11_heap a1 a2 I, _, g12_heap a1 a2 I, ?_, hC⟩
  unfold zs_heap
  by_cases c : 0 ≤ a1.toInt ∧ a1.toInt ≤ 8
  · have hh := hC.2.2.1 a1.toNatClampNeg (by rw [zcl_iff]; omega)
    rw [hh.1, hh.2.2.1]
  · rw [if_pos c, if_pos c]
theorem zH1_ok {T : Nat → zMK → zMI → zMR → Prop} (hT : zTq T) : zH1 (zC T) := fun n kd I R a1 a2 a3 hC => by
  refine ⟨_, g11_set hC.1 a1 a2 a3 I, _, g12_set a1 a2 a3 _, ?_⟩
  by_cases c1 : ¬ (0 ≤ a1.toInt ∧ a1.toInt ≤ 2)
  · unfold zs_set
    simp only [if_pos c1]
    exact ⟨trivial, hC⟩
  unfold zs_set
  simp only [if_neg c1]
  by_cases c2 : a1 = 2
  · simp only [if_pos c2]
    by_cases c3 : 1 ≤ a3.toInt ∧ a3.toInt ≤ 200
    · simp only [if_pos c3]
      rw [uI_ne (show (81 : Nat) ≠ 32 by decide)]
      refine ⟨hC.2.1.2.1, ?_⟩
      have x32 : uI (uI I 32 2 a3) 81 2 a3 32 = uI I 32 2 a3 32 := uI_ne (by decide)
      have y81 : ∀ k, k ≠ 2 → uI (uI I 32 2 a3) 81 2 a3 81 k = I 81 k := fun k hk => by rw [uI_off hk, uI_ne (by decide)]
      have y32 : ∀ k, k ≠ 2 → uI (uI I 32 2 a3) 81 2 a3 32 k = I 32 k := fun k hk => by rw [x32, uI_off hk]
      have x37 : uI (uI I 32 2 a3) 81 2 a3 37 = I 37 := by rw [uI_ne (by decide), uI_ne (by decide)]
      refine zC_fields hT hC (fun a h1 h2 => by rw [uI_ne h2, uI_ne h1]) ?_ (y81 3 (by decide)) (y81 8 (by decide)) (y81 11 (by decide)) ?_
      · have h := hC.2.1
        unfold zCn at h ⊢
        rw [y32 4 (by decide), y32 6 (by decide), y32 7 (by decide), y81 3 (by decide), y81 11 (by decide), y81 12 (by decide), y81 8 (by decide), x37, x32, uI_at, uI_at]
        exact ⟨h.1, rfl, h.2.2.1, h.2.2.2.1, h.2.2.2.2.1, h.2.2.2.2.2.1, c3, h.2.2.2.2.2.2.2⟩
      · have h := hC.2.2.2.2.2.1
        unfold zCi at h ⊢
        rw [y32 18 (by decide), y32 17 (by decide), y32 19 (by decide), y81 3 (by decide), y81 11 (by decide), y81 13 (by decide), y81 14 (by decide), y81 15 (by decide), y81 16 (by decide), uI_ne (show (64 : Nat) ≠ 81 by decide), uI_ne (show (64 : Nat) ≠ 32 by decide), uI_ne (show (65 : Nat) ≠ 81 by decide), uI_ne (show (65 : Nat) ≠ 32 by decide), uI_ne (show (66 : Nat) ≠ 81 by decide), uI_ne (show (66 : Nat) ≠ 32 by decide), uI_ne (show (90 : Nat) ≠ 81 by decide), uI_ne (show (90 : Nat) ≠ 32 by decide)]
        exact h
    · simp only [if_neg c3]
      exact ⟨trivial, hC⟩
  simp only [if_neg c2]
  by_cases c4 : ¬ (0 ≤ a2.toInt ∧ a2.toInt ≤ 8)
  · simp only [if_pos c4]
    exact ⟨trivial, hC⟩
  simp only [if_neg c4]
  have hi : a2.toNatClampNeg < 9 := by rw [zcl_iff]; omega
  have hh := hC.2.2.1
  by_cases c5 : a1 = 0
  · simp only [if_pos c5]
    by_cases c6 : 0 ≤ a3.toInt ∧ a3.toInt ≤ 200
    · simp only [if_pos c6]
      rw [uI_ne (show (82 : Nat) ≠ 33 by decide)]
      refine ⟨(hh _ hi).1, zC_heaps hT hC (fun a h1 h2 h3 h4 => by rw [uI_ne h3, uI_ne h1]) fun h h9 => ?_⟩
      rw [uI_ne (show (33 : Nat) ≠ 82 by decide), uI_ne (show (34 : Nat) ≠ 82 by decide), uI_ne (show (34 : Nat) ≠ 33 by decide), uI_ne (show (83 : Nat) ≠ 82 by decide), uI_ne (show (83 : Nat) ≠ 33 by decide)]
      by_cases e : h = a2.toNatClampNeg
      · rw [e, uI_at, uI_at]
        exact ⟨rfl, c6, (hh _ hi).2.2⟩
      · rw [uI_off e, uI_off e, uI_ne (show (82 : Nat) ≠ 33 by decide)]
        exact hh h h9
    · simp only [if_neg c6]
      exact ⟨trivial, hC⟩
  · simp only [if_neg c5]
    by_cases c6 : 0 ≤ a3.toInt ∧ a3.toInt ≤ 9
    · simp only [if_pos c6]
      rw [uI_ne (show (83 : Nat) ≠ 34 by decide)]
      refine ⟨(hh _ hi).2.2.1, zC_heaps hT hC (fun a h1 h2 h3 h4 => by rw [uI_ne h4, uI_ne h2]) fun h h9 => ?_⟩
      rw [uI_ne (show (34 : Nat) ≠ 83 by decide), uI_ne (show (33 : Nat) ≠ 83 by decide), uI_ne (show (33 : Nat) ≠ 34 by decide), uI_ne (show (82 : Nat) ≠ 83 by decide), uI_ne (show (82 : Nat) ≠ 34 by decide)]
      by_cases e : h = a2.toNatClampNeg
      · rw [e, uI_at, uI_at]
        exact ⟨(hh _ hi).1, (hh _ hi).2.1, rfl, c6⟩
      · rw [uI_off e, uI_off e, uI_ne (show (83 : Nat) ≠ 34 by decide)]
        exact hh h h9
    · simp only [if_neg c6]
      exact ⟨trivial, hC⟩
/-- another law is in force -/
theorem zH5_ok {T : Nat → zMK → zMI → zMR → Prop} (hT : zTq T) : zH5 (zC T) := fun n kd I R a1 hC => by
  have hn := hC.2.1
  unfold zCn at hn
  obtain ⟨e1, e2, e3, e4, e5, r3, r2, r11, r12, r8⟩ := hn
  have es : (I 81 11 - 1).toInt = (I 81 11).toInt - 1 := zsub (by rw [z1]; omega) (by rw [z1]; omega)
  by_cases c : 0 ≤ a1.toInt ∧ a1.toInt < (I 81 11).toInt
  · have f : f11_force a1 I = some (I 32 7, uI I 32 7 a1) := by
      unfold f11_force
      rw [if_neg (by rw [zlt_iff, z0]; omega), if_pos (by rw [zlt_iff, e3]; omega), zl_eq]
    refine ⟨_, f, (uI I 32 7 a1 81 12, uI (uI I 32 7 a1) 81 12 a1), ?_, ?_, ?_⟩
    · unfold f12_force
      dsimp only
      rw [uI_ne (show (81 : Nat) ≠ 32 by decide), g12_in, zb_some, es, z0]
      simp only [zB_0]
      rw [if_neg (by omega), zl_eq]
    · show I 32 7 = uI I 32 7 a1 81 12
      rw [uI_ne (show (81 : Nat) ≠ 32 by decide)]
      exact e4
    · show zC T n kd (uI (uI I 32 7 a1) 81 12 a1) R
      have x32 : uI (uI I 32 7 a1) 81 12 a1 32 = uI I 32 7 a1 32 := uI_ne (by decide)
      have y81 : ∀ k, k ≠ 12 → uI (uI I 32 7 a1) 81 12 a1 81 k = I 81 k := fun k hk => by rw [uI_off hk, uI_ne (by decide)]
      have y32 : ∀ k, k ≠ 7 → uI (uI I 32 7 a1) 81 12 a1 32 k = I 32 k := fun k hk => by rw [x32, uI_off hk]
      have x37 : uI (uI I 32 7 a1) 81 12 a1 37 = I 37 := by rw [uI_ne (by decide), uI_ne (by decide)]
      refine zC_fields hT hC (fun a h1 h2 => by rw [uI_ne h2, uI_ne h1]) ?_ (y81 3 (by decide)) (y81 8 (by decide)) (y81 11 (by decide)) ?_
      · unfold zCn
        rw [y32 4 (by decide), y32 6 (by decide), y32 2 (by decide), y81 3 (by decide), y81 11 (by decide), y81 2 (by decide), y81 8 (by decide), x37, x32, uI_at, uI_at]
        exact ⟨e1, e2, e3, rfl, e5, r3, r2, r11, c, r8⟩
      · have h := hC.2.2.2.2.2.1
        unfold zCi at h ⊢
        rw [y32 18 (by decide), y32 17 (by decide), y32 19 (by decide), y81 3 (by decide), y81 11 (by decide), y81 13 (by decide), y81 14 (by decide), y81 15 (by decide), y81 16 (by decide), uI_ne (show (64 : Nat) ≠ 81 by decide), uI_ne (show (64 : Nat) ≠ 32 by decide), uI_ne (show (65 : Nat) ≠ 81 by decide), uI_ne (show (65 : Nat) ≠ 32 by decide), uI_ne (show (66 : Nat) ≠ 81 by decide), uI_ne (show (66 : Nat) ≠ 32 by decide), uI_ne (show (90 : Nat) ≠ 81 by decide), uI_ne (show (90 : Nat) ≠ 32 by decide)]
        exact h
  · have f : f11_force a1 I = some (-2, I) := by
      unfold f11_force
      by_cases c0 : a1 < 0
      · rw [if_pos c0]
      · rw [if_neg c0, if_neg (by rw [zlt_iff, z0] at c0; rw [zlt_iff, e3]; omega)]
    refine ⟨_, f, (-2, I), ?_, rfl, hC⟩
    unfold f12_force
    rw [g12_in, zb_some, es, z0]
    simp only [zB_0]
    rw [if_pos (by omega)]
/-- a walker is there on both sides, or on none -/
theorem g12_isWalker {T : Nat → zMK → zMI → zMR → Prop} {n : Nat} {kd : zMK} {I : zMI} {R : zMR} (hC : zC T n kd I R) (w : Int32) : f12_isWalker I w = some (zB (0 ≤ w.toInt ∧ w.toInt < (I 81 3).toInt)) := by
  obtain ⟨-, -, -, -, -, r3, -⟩ := hC.2.1
  have es : (I 81 3 - 1).toInt = (I 81 3).toInt - 1 := zsub (by rw [z1]; omega) (by rw [z1]; omega)
  unfold f12_isWalker
  rw [g12_in, zb_some, if_pos (zB_bB _), es, z0]
  congr 1
  unfold zB
  exact zdec (by omega) _ _
theorem g11_walkerOf {T : Nat → zMK → zMI → zMR → Prop} {n : Nat} {kd : zMK} {I : zMI} {R : zMR} (hC : zC T n kd I R) (w : Int32) : f11_walkerOf I R w = some (if 0 ≤ w.toInt ∧ w.toInt < (I 81 3).toInt then R 35 w.toNatClampNeg else none) := by
  obtain ⟨e1, -, -, -, -, r3, -⟩ := hC.2.1
  have z5 : (5 : Int32).toInt = 5 := rfl
  unfold f11_walkerOf
  simp only [zlt_iff, zle_iff, zibT, e1, z0, z5]
  repeat' split
  all_goals first | rfl | (exfalso; omega)
theorem zkc_w {k : Int32} (h0 : 0 ≤ k.toInt) (h5 : k.toInt ≤ 5) : zWc (zkc k) := by
  unfold zkc zWc
  repeat' split
  all_goals simp
theorem zW_ok {n a c : Nat} {kd : zMK} (h1 : 114 ≤ a) (h2 : a < n) (hk : (kd a).1 = 16 + c) (hc : zWc c) : zWkB n kd a = true := by
  unfold zWkB zwB
  rw [hk]
  rcases hc with rfl | rfl | rfl | rfl | rfl | rfl <;> simp <;> omega
theorem gv_kind {T : Nat → zMK → zMI → zMR → Prop} {n : Nat} {kd : zMK} {I : zMI} {k : Int32} {a : Nat} (h0 : 0 ≤ k.toInt) (h5 : k.toInt ≤ 5) (hk : (kd a).1 = 16 + zkc k) : fv_kind n kd I a = some k := by
  unfold fv_kind zkc at *
  rw [hk]
  by_cases c0 : k = 0
  · subst c0; rfl
  by_cases c1 : k = 1
  · subst c1; rfl
  by_cases c2 : k = 2
  · subst c2; rfl
  by_cases c3 : k = 3
  · subst c3; rfl
  by_cases c4 : k = 4
  · subst c4; rfl
  have c5 : k = 5 := by
    simp only [zeq_iff, Int32.reduceToInt] at c0 c1 c2 c3 c4 ⊢
    omega
  subst c5
  rfl
theorem gv_waits {n : Nat} {kd : zMK} {I : zMI} {k : Int32} {a : Nat} (h0 : 0 ≤ k.toInt) (h5 : k.toInt ≤ 5) (hk : (kd a).1 = 16 + zkc k) : fv_waits n kd I a = some (if k = 3 then 0 else 1) := by
  unfold fv_waits zkc at *
  rw [hk]
  by_cases c0 : k = 0
  · subst c0; rfl
  by_cases c1 : k = 1
  · subst c1; rfl
  by_cases c2 : k = 2
  · subst c2; rfl
  by_cases c3 : k = 3
  · subst c3; rfl
  by_cases c4 : k = 4
  · subst c4; rfl
  have c5 : k = 5 := by
    simp only [zeq_iff, Int32.reduceToInt] at c0 c1 c2 c3 c4 ⊢
    omega
  subst c5
  rfl
theorem zH9_ok {T : Nat → zMK → zMI → zMR → Prop} : zH9 (zC T) := fun n kd I R a1 a2 hC => by
  have r3 := hC.2.1.2.2.2.2.2.1
  by_cases c : 0 ≤ a1.toInt ∧ a1.toInt < (I 81 3).toInt
  · have hi : a1.toNatClampNeg < (I 81 3).toInt.toNat := by rw [zcl_iff]; omega
    obtain ⟨a, q1, q2, q3, q4, q5, q6, q7, q8, q9, q10⟩ := hC.2.2.2.2.2.2.1 _ hi
    have hw := zW_ok q2 q3 q4 (zkc_w q5.1 q5.2)
    have hz : zib a1 5 = true := zib_ok c.1 (by omega)
    have f : f11_told n kd I R a1 a2 = f12_told I a1 a2 := by
      unfold f11_told f12_told
      rw [g11_walkerOf hC, g12_isWalker hC]
      simp only [zb_some, zB_0, if_pos c, q1, zm_some, hw, hz, if_true, not_true_eq_false, if_false, gv_kind (T := T) q5.1 q5.2 q4, gv_waits q5.1 q5.2 q4, q7, q9, zl_eq, c, and_self]
      by_cases k3 : I 84 a1.toNatClampNeg = 3
      · simp [k3]
      · simp [k3]
    have g : ∃ v, f12_told I a1 a2 = some v := by
      unfold f12_told
      rw [g12_isWalker hC]
      simp only [zb_some, zB_0, hz, if_true, zl_eq]
      repeat' split
      all_goals exact ⟨_, rfl⟩
    obtain ⟨v, hv⟩ := g
    exact ⟨v, f.trans hv, v, hv, rfl, hC⟩
  · refine ⟨-5, ?_, -5, ?_, rfl, hC⟩
    · unfold f11_told
      rw [g11_walkerOf hC, zb_some, if_neg c, zm_none]
    · unfold f12_told
      rw [g12_isWalker hC, zb_some]
      simp only [zB_0]
      rw [if_pos c]

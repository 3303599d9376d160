/-! pure part: the plain calls, each in one form for both sides -/
def zs_set (ah ak wa wk : Nat) (a h v : Int32) (I : zMI) : Int32 × zMI :=
  if ¬ (0 ≤ a.toInt ∧ a.toInt ≤ 2) then (-5, I)
  else if a = 2 then (if 1 ≤ v.toInt ∧ v.toInt ≤ 200 then (I wa wk, uI I wa wk v) else (-7, I))
  else if ¬ (0 ≤ h.toInt ∧ h.toInt ≤ 8) then (-6, I)
  else if a = 0 then (if 0 ≤ v.toInt ∧ v.toInt ≤ 200 then (I ah h.toNatClampNeg, uI I ah h.toNatClampNeg v) else (-7, I))
  else (if 0 ≤ v.toInt ∧ v.toInt ≤ 9 then (I ak h.toNatClampNeg, uI I ak h.toNatClampNeg v) else (-7, I))
theorem z0 : (0 : Int32).toInt = 0 := rfl
theorem z1 : (1 : Int32).toInt = 1 := rfl
theorem z2 : (2 : Int32).toInt = 2 := rfl
theorem z9 : (9 : Int32).toInt = 9 := rfl
theorem z200 : (200 : Int32).toInt = 200 := rfl
theorem zdec {α : Type} {c d : Prop} [Decidable c] [Decidable d] (h : c ↔ d) (a b : α) : (if c then a else b) = if d then a else b := by
  by_cases q : c
  · rw [if_pos q, if_pos (h.mp q)]
  · rw [if_neg q, if_neg (fun p => q (h.mpr p))]
theorem zibT (i : Int32) (N : Nat) : (zib i N = true) ↔ (0 ≤ i.toInt ∧ i.toInt < N) := ⟨fun h => by
  unfold zib at h
  simp only [Bool.and_eq_true, decide_eq_true_eq, zle_iff, z0, zcl_iff] at h
  omega, fun h => zib_ok h.1 h.2⟩
theorem g12_set (a h v : Int32) (I : zMI) : f12_set a h v I = some (zs_set 82 83 81 2 a h v I) := by
  unfold f12_set zs_set f12_set_B27
  simp only [g12_in, g12_isHeap, zb_some, zl_eq, zB_0]
  simp only [zlt_iff, zle_iff, zeq_iff, zibT, Int32.reduceToInt]
  repeat' split
  all_goals first | rfl | (exfalso; omega) | (exfalso; simp only [Int32.reduceToInt] at *; omega)
theorem g11_set {n : Nat} {kd : zMK} (hS : zSh n kd) (a h v : Int32) (I : zMI) : f11_set n kd a h v I = some (zs_set 33 34 32 2 a h v I) := by
  have k3 : zKdB n kd 33 0 = true := by
    unfold zKdB
    rw [hS.2 33 (by decide) (by decide)]
    simp [zK0, zKL]
    have := hS.1
    omega
  have k4 : zKdB n kd 34 0 = true := by
    unfold zKdB
    rw [hS.2 34 (by decide) (by decide)]
    simp [zK0, zKL]
    have := hS.1
    omega
  have l3 : (kd 33).2 = 9 := hS.len 33 (by decide) (by decide) rfl
  have l4 : (kd 34).2 = 9 := hS.len 34 (by decide) (by decide) rfl
  unfold f11_set zs_set f11_set_B71 f11_changeWant
  simp only [g11_noHeap, zb_some, zl_eq, zB_0, k3, k4, l3, l4, if_true]
  simp only [zlt_iff, zle_iff, zeq_iff, zibT, Int32.reduceToInt]
  repeat' split
  all_goals first | rfl | (exfalso; omega) | (exfalso; simp only [Int32.reduceToInt] at *; omega)

/-! pure part: walker -/
theorem zsplit6 {k : Int32} (h0 : 0 ≤ k.toInt) (h5 : k.toInt ≤ 5) : k = 0 ∨ k = 1 ∨ k = 2 ∨ k = 3 ∨ k = 4 ∨ k = 5 := by
  simp only [zeq_iff, Int32.reduceToInt]
  omega
theorem g10_init {n l0 : Nat} {kd : zMK} {l1 l2 l3 : Int32} {I : zMI} (h : zWkB n kd l0 = true) : f10_init n kd l0 l1 l2 l3 I = some (uI (uI (uI I l0 0 l1) l0 1 l2) l0 2 l3) := by
  unfold f10_init
  rw [if_pos h]
  rfl
theorem g11_newWalker {n : Nat} {kd : zMK} {I : zMI} {R : zMR} {k x m h : Int32} (hS : zSh n kd) (h0 : 0 ≤ k.toInt) (h5 : k.toInt ≤ 5) : f11_newWalker k x m h n kd I R = some (n, (n + 1, uK kd n (16 + zkc k, 0)), uI (uI (uI (uA I n (fun _ => 0)) n 0 x) n 1 m) n 2 h, uRA R n) := by
  have hw : ∀ c, zWc c → zWkB (n + 1) (uK kd n (16 + c, 0)) n = true := fun c hc => zW_ok hS.1 (by omega) (by unfold uK; rw [if_pos rfl]) hc
  have hs : ∀ v, zShB (n + 1) (uK kd n v) = true := fun v => zSh_B (zSh_new hS v)
  have w10 := hw 10 (by unfold zWc; simp)
  have w5 := hw 5 (by unfold zWc; simp)
  have w8 := hw 8 (by unfold zWc; simp)
  have w4 := hw 4 (by unfold zWc; simp)
  have w1 := hw 1 (by unfold zWc; simp)
  have w9 := hw 9 (by unfold zWc; simp)
  unfold f11_newWalker
  rcases zsplit6 h0 h5 with rfl | rfl | rfl | rfl | rfl | rfl
  · simp only [zl_eq, hs, if_true]
    rw [if_neg (by decide), if_neg (by decide), if_neg (by decide), if_neg (by decide), if_neg (by decide), g10_init w10]
    rfl
  · simp only [zl_eq, hs, if_true, f5_init]
    rw [g10_init w5]
    rfl
  · simp only [zl_eq, hs, if_true, f8_init]
    rw [if_neg (by decide), g10_init w8]
    rfl
  · simp only [zl_eq, hs, if_true, f4_init, f5_init]
    rw [if_neg (by decide), if_neg (by decide), g10_init w4]
    rfl
  · simp only [zl_eq, hs, if_true, f1_init, f8_init]
    rw [if_neg (by decide), if_neg (by decide), if_neg (by decide), g10_init w1]
    rfl
  · simp only [zl_eq, hs, if_true, f9_init]
    rw [if_neg (by decide), if_neg (by decide), if_neg (by decide), if_neg (by decide), g10_init w9]
    rfl

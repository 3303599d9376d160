/-! pure part: the tape takes bytes -/
def zby (l2 l3 l4 l5 l6 : Int32) (i : Nat) : Int32 := if i = 0 then l2 else if i = 1 then l3 else if i = 2 then l4 else if i = 3 then l5 else l6
theorem g7_add {I : zMI} {v : Int32} (h : 0 ≤ (I 37 1).toInt ∧ (I 37 1).toInt < 160) : f7_add v I = some (uI (uI I 38 (I 37 1).toNatClampNeg v) 37 1 (I 37 1 + 1)) := by
  have z160 : (160 : Int32).toInt = 160 := rfl
  unfold f7_add
  rw [if_neg (by rw [zlt_iff, z0]; omega), if_neg (by rw [zle_iff, z160]; omega), if_pos (zib_ok h.1 (by omega)), zl_eq, zl_eq, uI_ne (show (37 : Nat) ≠ 38 by decide)]
theorem g12_feedL {l1 l2 l3 l4 l5 l6 : Int32} (h5 : l1.toInt ≤ 5) : ∀ (d q : Nat) (l7 : Int32) (I : zMI), l1.toInt = l7.toInt + d → 0 ≤ l7.toInt → 0 ≤ (I 81 8).toInt → (I 81 8).toInt + d ≤ 160 → d < q →
    ∃ J, f12_feed_L68 q l1 l2 l3 l4 l5 l6 l7 I = some (J 81 8, J) ∧ (J 81 8).toInt = (I 81 8).toInt + d ∧ (∀ k, J 87 k = if (I 81 8).toInt.toNat ≤ k ∧ k < (I 81 8).toInt.toNat + d then zby l2 l3 l4 l5 l6 (l7.toInt.toNat + (k - (I 81 8).toInt.toNat)) else I 87 k) ∧ (∀ a, a ≠ 87 → a ≠ 81 → J a = I a) ∧ ∀ j, j ≠ 8 → J 81 j = I 81 j := by
  intro d
  induction d with
  | zero =>
    intro q l7 I e h7 ht hd hq
    obtain ⟨q, rfl⟩ : ∃ p, q = p + 1 := ⟨q - 1, by omega⟩
    refine ⟨I, ?_, by omega, fun k => by rw [if_neg (by omega)], fun _ _ _ => rfl, fun _ _ => rfl⟩
    unfold f12_feed_L68
    rw [if_pos (by rw [zle_iff]; omega)]
  | succ d ih =>
    intro q l7 I e h7 ht hd hq
    obtain ⟨q, rfl⟩ : ∃ p, q = p + 1 := ⟨q - 1, by omega⟩
    have e7 : (l7 + 1).toInt = l7.toInt + 1 := zadd (by rw [z1]; omega) (by rw [z1]; omega)
    have et : (I 81 8 + 1).toInt = (I 81 8).toInt + 1 := zadd (by rw [z1]; omega) (by rw [z1]; omega)
    have hx : (if l7 = (0 : Int32) then l2 else if l7 = 1 then l3 else if l7 = 2 then l4 else if l7 = 3 then l5 else l6) = zby l2 l3 l4 l5 l6 l7.toInt.toNat := by
      unfold zby
      simp only [zeq_iff, Int32.reduceToInt]
      repeat' split
      all_goals first | rfl | (exfalso; omega)
    have F : uI (uI I 87 (I 81 8).toNatClampNeg (zby l2 l3 l4 l5 l6 l7.toInt.toNat)) 81 8 (I 81 8 + 1) 81 8 = I 81 8 + 1 := uI_at
    obtain ⟨J, j1, j2, j3, j4, j5⟩ := ih q (l7 + 1) (uI (uI I 87 (I 81 8).toNatClampNeg (zby l2 l3 l4 l5 l6 l7.toInt.toNat)) 81 8 (I 81 8 + 1)) (by omega) (by omega) (by rw [F]; omega) (by rw [F]; omega) (by omega)
    refine ⟨J, ?_, by rw [j2, F]; omega, fun k => ?_, fun a h1 h2 => by rw [j4 a h1 h2, uI_ne h2, uI_ne h1], fun j hj => by rw [j5 j hj, uI_off hj, uI_ne (by decide)]⟩
    · unfold f12_feed_L68
      rw [if_neg (by rw [zle_iff]; omega), hx, zl_eq, if_pos (zib_ok ht (by omega)), zl_eq, zl_eq, uI_ne (show (81 : Nat) ≠ 87 by decide)]
      exact j1
    · rw [j3 k, F, e7, et, uI_ne (show (87 : Nat) ≠ 81 by decide)]
      by_cases hk : k = (I 81 8).toInt.toNat
      · rw [if_neg (by omega), if_pos (by omega), hk, zcl_iff, uI_at, Nat.sub_self, Nat.add_zero]
      · rw [zcl_iff, uI_off hk]
        by_cases h2 : (I 81 8).toInt.toNat ≤ k ∧ k < (I 81 8).toInt.toNat + (d + 1)
        · rw [if_pos (by omega), if_pos h2]
          congr 1
          omega
        · rw [if_neg (by omega), if_neg h2]

/-! pure part: the class's side of feed -/
def zXa (v : Int32) (I : zMI) : zMI := uI (uI I 38 (I 37 1).toNatClampNeg v) 37 1 (I 37 1 + 1)
def zXA (b : Nat → Int32) : Nat → Nat → zMI → zMI
  | 0, _, I => I
  | d + 1, i, I => zXA b d (i + 1) (zXa (b i) I)
theorem zXa_sz {v : Int32} {I : zMI} (h : 0 ≤ (I 37 1).toInt ∧ (I 37 1).toInt < 160) : (zXa v I 37 1).toInt = (I 37 1).toInt + 1 := by
  unfold zXa
  rw [uI_at, zadd (by rw [z1]; omega) (by rw [z1]; omega), z1]
theorem zXA_all (b : Nat → Int32) : ∀ (d i : Nat) (I : zMI), 0 ≤ (I 37 1).toInt → (I 37 1).toInt + d ≤ 160 →
    (zXA b d i I 37 1).toInt = (I 37 1).toInt + d ∧ (∀ k, zXA b d i I 38 k = if (I 37 1).toInt.toNat ≤ k ∧ k < (I 37 1).toInt.toNat + d then b (i + (k - (I 37 1).toInt.toNat)) else I 38 k) ∧ (∀ a, a ≠ 38 → a ≠ 37 → zXA b d i I a = I a) ∧ ∀ j, j ≠ 1 → zXA b d i I 37 j = I 37 j := by
  intro d
  induction d with
  | zero =>
    intro i I h0 h1
    exact ⟨by show (I 37 1).toInt = _; omega, fun k => by rw [if_neg (by omega)]; rfl, fun _ _ _ => rfl, fun _ _ => rfl⟩
  | succ d ih =>
    intro i I h0 h1
    have es := zXa_sz (v := b i) (I := I) ⟨h0, by omega⟩
    obtain ⟨j1, j2, j3, j4⟩ := ih (i + 1) (zXa (b i) I) (by omega) (by omega)
    refine ⟨by show (zXA b d (i + 1) (zXa (b i) I) 37 1).toInt = _; rw [j1, es]; omega, fun k => ?_, fun a x y => ?_, fun j hj => ?_⟩
    · show zXA b d (i + 1) (zXa (b i) I) 38 k = _
      rw [j2 k, es]
      have e38 : zXa (b i) I 38 = uI I 38 (I 37 1).toNatClampNeg (b i) 38 := by
        unfold zXa
        rw [uI_ne (by decide)]
      rw [e38]
      by_cases hk : k = (I 37 1).toInt.toNat
      · rw [if_neg (by omega), if_pos (by omega), hk, zcl_iff, uI_at, Nat.sub_self, Nat.add_zero]
      · rw [zcl_iff, uI_off hk]
        by_cases h2 : (I 37 1).toInt.toNat ≤ k ∧ k < (I 37 1).toInt.toNat + (d + 1)
        · rw [if_pos (by omega), if_pos h2]
          congr 1
          omega
        · rw [if_neg (by omega), if_neg h2]
    · show zXA b d (i + 1) (zXa (b i) I) a = _
      rw [j3 a x y]
      unfold zXa
      rw [uI_ne y, uI_ne x]
    · show zXA b d (i + 1) (zXa (b i) I) 37 j = _
      rw [j4 j hj]
      unfold zXa
      rw [uI_off hj, uI_ne (by decide)]

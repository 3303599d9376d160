/-! pure part: how long a taking takes and a step, on both sides -/
def zwl (n : Nat) (kd : zMK) (I J : zMI) (a : Nat) (w : Int32) : Prop := zWkB n kd a = true ∧ (kd a).1 = 16 + zkc (J 84 w.toNatClampNeg) ∧ (0 ≤ (J 84 w.toNatClampNeg).toInt ∧ (J 84 w.toNatClampNeg).toInt ≤ 5) ∧ I a 0 = w ∧ I a 1 = J 85 w.toNatClampNeg ∧ (0 ≤ (J 85 w.toNatClampNeg).toInt ∧ (J 85 w.toNatClampNeg).toInt ≤ 9) ∧ (0 ≤ w.toInt ∧ w.toInt < 5)
theorem zwl_ne {n : Nat} {kd : zMK} {I J : zMI} {a : Nat} {w : Int32} (h : zwl n kd I J a w) {s : Nat} (hs : (kd s).1 = 0) : a ≠ s := fun q => by
  have h2 := h.2.1
  have := (zkc_ne (k := J 84 w.toNatClampNeg)).1
  rw [q, hs] at h2
  omega
theorem zdiv {a b : Int32} (ha : 0 ≤ a.toInt) (hb : 0 < b.toInt) : (a / b).toInt = a.toInt / b.toInt := by
  have h1 := zrange a
  have h2 := zrange b
  have d0 : 0 ≤ a.toInt / b.toInt := Int.ediv_nonneg ha (by omega)
  have d1 : a.toInt / b.toInt ≤ a.toInt := Int.ediv_le_self _ ha
  rw [Int32.toInt_div, Int.tdiv_eq_ediv_of_nonneg ha]
  exact Int.bmod_eq_of_le (by omega) (by omega)
theorem zmax1 (x : Int32) : (if (1 : Int32) < x then x else 1) = if 1 ≤ x then x else 1 := by
  by_cases c : (1 : Int32) < x
  · rw [if_pos c, if_pos (by rw [zlt_iff] at c; rw [zle_iff]; omega)]
  · rw [if_neg c]
    by_cases c2 : (1 : Int32) ≤ x
    · rw [if_pos c2]
      rw [zlt_iff] at c
      rw [zle_iff] at c2
      rw [zeq_iff]
      omega
    · rw [if_neg c2]
theorem zmax1_r {x : Int32} {N : Int} (h : x.toInt ≤ N) (hN : 1 ≤ N) : 1 ≤ (if (1 : Int32) ≤ x then x else 1).toInt ∧ (if (1 : Int32) ≤ x then x else 1).toInt ≤ N := by
  by_cases c : (1 : Int32) ≤ x
  · rw [if_pos c]
    rw [zle_iff, z1] at c
    exact ⟨c, h⟩
  · rw [if_neg c, z1]
    omega
/-- the step by kind -/
def zstF (k m v : Int32) : Int32 := if k = 1 then v - m / 3 else if k = 3 then v - m / 3 else if k = 4 then 2 * v else v
def ztkF (k m v d : Int32) : Int32 := if k = 2 then v + m / 2 else if k = 3 then v + 1 else if k = 4 then v + (m / 2 + if d ≤ m then 1 else 2) else if k = 5 then (if d < m then v else v / 2) else v
theorem gv_stepFor {n a : Nat} {kd : zMK} {I : zMI} {k v : Int32} (hW : zWkB n kd a = true) (k0 : 0 ≤ k.toInt) (k5 : k.toInt ≤ 5) (hk : (kd a).1 = 16 + zkc k) : fv_stepFor n kd I a v = some (zstF k (I a 1) v) := by
  unfold fv_stepFor f1_stepFor f5_stepFor f10_stepFor zstF
  simp only [hW, if_true]
  rw [hk]
  rcases zsplit6 k0 k5 with rfl | rfl | rfl | rfl | rfl | rfl
  · rfl
  · rfl
  · rfl
  · rfl
  · rw [if_neg (show ¬ (4 : Int32) = 1 by decide), if_neg (show ¬ (4 : Int32) = 3 by decide), if_pos (show (4 : Int32) = 4 from rfl), Int32.mul_comm]
    rfl
  · rfl
theorem gv_takesFor {n a : Nat} {kd : zMK} {I : zMI} {k v d : Int32} (hW : zWkB n kd a = true) (k0 : 0 ≤ k.toInt) (k5 : k.toInt ≤ 5) (hk : (kd a).1 = 16 + zkc k) : fv_takesFor n kd I a v d = some (ztkF k (I a 1) v d) := by
  unfold fv_takesFor f1_takesFor f4_takesFor f8_takesFor f9_takesFor f10_takesFor ztkF
  simp only [hW, if_true, zb_some, zl_eq]
  rw [hk]
  rcases zsplit6 k0 k5 with rfl | rfl | rfl | rfl | rfl | rfl
  · rfl
  · rfl
  · rfl
  · rfl
  · rw [if_neg (show ¬ (4 : Int32) = 2 by decide), if_neg (show ¬ (4 : Int32) = 3 by decide), if_pos (show (4 : Int32) = 4 from rfl), ← Int32.add_assoc]
    rfl
  · rfl
theorem zstF_r {k m v : Int32} (hm : 0 ≤ m.toInt ∧ m.toInt ≤ 9) (hv : 1 ≤ v.toInt ∧ v.toInt ≤ 20) : (zstF k m v).toInt ≤ 40 := by
  have e : (m / 3).toInt = m.toInt / 3 := zdiv hm.1 (by decide)
  have e2 : (v - m / 3).toInt = v.toInt - m.toInt / 3 := by rw [zsub (by omega) (by omega), e]
  have e3 : (2 * v).toInt = 2 * v.toInt := by rw [zmul (by rw [z2]; omega) (by rw [z2]; omega), z2]
  unfold zstF
  split
  · omega
  · split
    · omega
    · split
      · omega
      · omega
theorem ztkF_r {k m v d : Int32} (hm : 0 ≤ m.toInt ∧ m.toInt ≤ 9) (hv : 1 ≤ v.toInt ∧ v.toInt ≤ 20) : (ztkF k m v d).toInt ≤ 40 := by
  have e : (m / 2).toInt = m.toInt / 2 := zdiv hm.1 (by decide)
  have ev : (v / 2).toInt = v.toInt / 2 := zdiv (by omega) (by decide)
  have e2 : (v + m / 2).toInt = v.toInt + m.toInt / 2 := by rw [zadd (by omega) (by omega), e]
  have e3 : (v + 1).toInt = v.toInt + 1 := by rw [zadd (by rw [z1]; omega) (by rw [z1]; omega), z1]
  have e4 : (m / 2 + if d ≤ m then 1 else 2 : Int32).toInt ≤ m.toInt / 2 + 2 ∧ 0 ≤ (m / 2 + if d ≤ m then 1 else 2 : Int32).toInt := by
    split
    · rw [zadd (by rw [z1]; omega) (by rw [z1]; omega), z1]
      omega
    · rw [zadd (by rw [z2]; omega) (by rw [z2]; omega), z2]
      omega
  have e5 : (v + (m / 2 + if d ≤ m then 1 else 2 : Int32)).toInt = v.toInt + (m / 2 + if d ≤ m then 1 else 2 : Int32).toInt := zadd (by omega) (by omega)
  unfold ztkF
  split
  · omega
  · split
    · omega
    · split
      · omega
      · split
        · split <;> omega
        · omega
section
variable {n : Nat} {kd : zMK} {R : zMR} {L s a t h : Nat} {I J : zMI} {left done w hh : Int32}
theorem zsteps (hR : R 42 7 = some L) (hLw : zLw n kd R L s I J t) (ht : (J 81 12).toInt = (t : Int)) (ht6 : t < 6) (hw : zwl n kd I J a w) (hh9 : h < 9) (h0 : I (46 + h) 0 = hh) (h1 : I (46 + h) 1 = left) (em : I 42 3 = J 81 3) :
    ∃ v I' J', f0_stepOf n kd R a (46 + h) done I = some (v, I') ∧ f12_stepsOf w hh left done J = some (v, J') ∧ (∀ b, b ≠ s → b ≠ s + 1 → I' b = I b) ∧ (∀ b, b ≠ 97 → b ≠ 98 → J' b = J b) ∧ (1 ≤ v.toInt ∧ v.toInt ≤ 40) := by
  have ka : a ≠ s := zwl_ne hw (by rw [hLw.1.2.2.2.1])
  have ka1 : a ≠ s + 1 := zwl_ne hw (by rw [hLw.1.2.2.2.2.1])
  obtain ⟨w1, w2, w3, w4, w5, w6, w7⟩ := hw
  obtain ⟨v, I', J', u1, u2, u3, u4, u5, u6⟩ := zsays (part := 1) (h := hh) (left := left) (done := done) (many := I 42 3) hLw ht ht6 (by decide) w1 ka1 w7 w4 w5 em
  have v20 := u6 (by decide)
  have j84 : J' 84 = J 84 := u4 84 (by decide) (by decide)
  have j85 : J' 85 = J 85 := u4 85 (by decide) (by decide)
  have ia1 : I' a 1 = J 85 w.toNatClampNeg := by rw [u3 a ka ka1]; exact w5
  refine ⟨if 1 ≤ zstF (J 84 w.toNatClampNeg) (J 85 w.toNatClampNeg) v then zstF (J 84 w.toNatClampNeg) (J 85 w.toNatClampNeg) v else 1, I', J', ?_, ?_, u3, u4, zmax1_r (zstF_r w6 v20) (by decide)⟩
  · have hp : zHpB (46 + h) = true := by
      unfold zHpB
      simp
      omega
    have g19 := hLw.1.1
    have st := gv_stepFor (I := I') (v := v) w1 w3.1 w3.2 w2
    rw [ia1] at st
    unfold f0_stepOf f0_stepOf_B33
    rw [hR, zm_some, if_pos hp, if_pos g19, h0, h1, u1, zb_some, if_pos w1]
    show zb (fv_stepFor n kd I' a v) _ = _
    rw [st, zb_some, zl_eq, zmax1 (zstF (J 84 w.toNatClampNeg) (J 85 w.toNatClampNeg) v)]
  · unfold f12_stepsOf
    rw [u2, zb_some, if_pos (zib_ok w7.1 (by omega)), zl_eq, zl_eq]
    dsimp only
    simp only [j84, j85]
    rfl
theorem ztakes (hR : R 42 7 = some L) (hLw : zLw n kd R L s I J t) (ht : (J 81 12).toInt = (t : Int)) (ht6 : t < 6) (hw : zwl n kd I J a w) (hh9 : h < 9) (h0 : I (46 + h) 0 = hh) (h1 : I (46 + h) 1 = left) (em : I 42 3 = J 81 3) :
    ∃ v I' J', f0_takesOf n kd R a (46 + h) done I = some (v, I') ∧ f12_takesOf w hh left done J = some (v, J') ∧ (∀ b, b ≠ s → b ≠ s + 1 → I' b = I b) ∧ (∀ b, b ≠ 97 → b ≠ 98 → J' b = J b) ∧ (1 ≤ v.toInt ∧ v.toInt ≤ 40) := by
  have ka : a ≠ s := zwl_ne hw (by rw [hLw.1.2.2.2.1])
  have ka1 : a ≠ s + 1 := zwl_ne hw (by rw [hLw.1.2.2.2.2.1])
  obtain ⟨w1, w2, w3, w4, w5, w6, w7⟩ := hw
  obtain ⟨v, I', J', u1, u2, u3, u4, u5, u6⟩ := zsays (part := 0) (h := hh) (left := left) (done := done) (many := I 42 3) hLw ht ht6 (by decide) w1 ka1 w7 w4 w5 em
  have v20 := u6 (by decide)
  have j84 : J' 84 = J 84 := u4 84 (by decide) (by decide)
  have j85 : J' 85 = J 85 := u4 85 (by decide) (by decide)
  have ia1 : I' a 1 = J 85 w.toNatClampNeg := by rw [u3 a ka ka1]; exact w5
  refine ⟨if 1 ≤ ztkF (J 84 w.toNatClampNeg) (J 85 w.toNatClampNeg) v done then ztkF (J 84 w.toNatClampNeg) (J 85 w.toNatClampNeg) v done else 1, I', J', ?_, ?_, u3, u4, zmax1_r (ztkF_r w6 v20) (by decide)⟩
  · have hp : zHpB (46 + h) = true := by
      unfold zHpB
      simp
      omega
    have g19 := hLw.1.1
    have st := gv_takesFor (I := I') (v := v) (d := done) w1 w3.1 w3.2 w2
    rw [ia1] at st
    unfold f0_takesOf f0_takesOf_B33
    rw [hR, zm_some, if_pos hp, if_pos g19, h0, h1, u1, zb_some, if_pos w1]
    show zb (fv_takesFor n kd I' a v done) _ = _
    rw [st, zb_some, zl_eq, zmax1 (ztkF (J 84 w.toNatClampNeg) (J 85 w.toNatClampNeg) v done)]
  · unfold f12_takesOf f12_takesOf_B120
    rw [u2, zb_some, if_pos (zib_ok w7.1 (by omega)), zl_eq]
    dsimp only
    simp only [j84, j85, zl_eq]
    unfold ztkF
    repeat' split
    all_goals first | rfl | (exfalso; simp only [*] at *; done)
end

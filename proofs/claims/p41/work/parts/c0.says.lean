/-! pure part: what the reference's stack machine makes of the signs -/
def clampI (x lo hi : Int) : Int := if x < lo then lo else if hi < x then hi else x
theorem g12_withinI {v a b : Int32} (hab : a.toInt ≤ b.toInt) : ∃ x, f12_within v a b = some x ∧ x.toInt = clampI v.toInt a.toInt b.toInt := by
  unfold f12_within clampI
  rw [zl_eq]
  by_cases h1 : a ≤ v
  · rw [if_pos h1]
    rw [zle_iff] at h1
    by_cases h2 : v ≤ b
    · rw [if_pos h2]
      rw [zle_iff] at h2
      exact ⟨v, rfl, by rw [if_neg (by omega), if_neg (by omega)]⟩
    · rw [if_neg h2]
      rw [zle_iff] at h2
      exact ⟨b, rfl, by rw [if_neg (by omega), if_pos (by omega)]⟩
  · rw [if_neg h1]
    rw [zle_iff] at h1
    exact ⟨a, rfl, by rw [if_pos (by omega)]⟩
section
variable {I : zMI} {part : Int32} {r n k e : Nat}
/-- where the loop stands -/
def yAt (I : zMI) (r e : Nat) (part : Int32) : Prop := I 81 12 = Int32.ofNat r ∧ r ≤ 5 ∧ (zib ((((4 : Int32) * (I 81 12)) + part) + (1 : Int32)) 24 = true ∧ I 89 ((((4 : Int32) * (I 81 12)) + part) + (1 : Int32)).toNatClampNeg = Int32.ofNat e) ∧ e ≤ 100
theorem yAt_eq {I' : zMI} (h : yAt I r e part) (hI : ∀ b, b ≠ 97 → I' b = I b) : yAt I' r e part := by
  obtain ⟨h1, h2, ⟨h3, h4⟩, h5⟩ := h
  unfold yAt
  rw [hI 81 (by decide), hI 89 (by decide)]
  exact ⟨h1, h2, ⟨h3, h4⟩, h5⟩
theorem yAt_ix (h : yAt I r e part) (hk : k ≤ 100) : (((200 : Int32) * (I 81 12)) + Int32.ofNat k).toInt = ((200 * r + k : Nat) : Int) := by
  have er := zofn_i (m := r) (by have := h.2.1; omega)
  have ek := zofn_i (m := k) (by omega)
  have h2 : (200 : Int32).toInt = 200 := rfl
  have hr := h.2.1
  rw [h.1, zadd (by rw [zmul (by rw [h2, er]; omega) (by rw [h2, er]; omega), h2, er, ek]; omega) (by rw [zmul (by rw [h2, er]; omega) (by rw [h2, er]; omega), h2, er, ek]; omega), zmul (by rw [h2, er]; omega) (by rw [h2, er]; omega), h2, er, ek]
  omega
theorem say_end {q : Nat} (h : yAt I r e part) : f12_says_L16 (q + 1) part (Int32.ofNat n) (Int32.ofNat e) I = some (I 97 0, I) := by
  unfold f12_says_L16
  rw [if_pos h.2.2.1.1, h.2.2.1.2, if_pos (by rw [zle_iff]; omega), if_pos (by decide)]
  rfl
/-- a number or a name is put down -/
theorem say_put {q : Nat} {v : Int32} (h : yAt I r e part) (hk : k < e) (hn : n < 100) (hc : ((100000 : Int32) ≤ I 88 (200 * r + k) ∧ v = I 88 (200 * r + k) - (100000 : Int32)) ∨ ∃ j : Nat, j < 6 ∧ I 88 (200 * r + k) = Int32.ofNat j ∧ v = I 98 j) :
    ∃ I', f12_says_L16 (q + 1) part (Int32.ofNat n) (Int32.ofNat k) I = f12_says_L16 q part (Int32.ofNat (n + 1)) (Int32.ofNat (k + 1)) I' ∧ I' 97 n = v ∧ (∀ j, j ≠ n → I' 97 j = I 97 j) ∧ ∀ b, b ≠ 97 → I' b = I b := by
  have he := h.2.2.2
  have hr := h.2.1
  have ix := yAt_ix h (k := k) (by omega)
  have nx : (((200 : Int32) * (I 81 12)) + Int32.ofNat k).toNatClampNeg = 200 * r + k := by rw [zcl_iff]; omega
  have en := zofn_i (m := n) (by omega)
  have nn := zofn_n (m := n) (by omega)
  refine ⟨uI I 97 n v, ?_, uI_at, fun j hj => uI_off hj, fun b hb => uI_ne hb⟩
  have zn : zib (Int32.ofNat n) 200 = true := zib_ok (by omega) (by omega)
  rw [f12_says_L16]
  rw [if_pos h.2.2.1.1, h.2.2.1.2, if_neg (by rw [zle_iff, zofn_i (by omega), zofn_i (by omega)]; omega), if_pos (zib_ok (by omega) (by rw [ix]; omega)), nx, zl_eq]
  rcases hc with ⟨c1, c2⟩ | ⟨j, j1, j2, j3⟩
  · rw [if_pos c1]
    unfold f12_says_B66 f12_says_B93 f12_says_B191
    rw [if_pos (by rw [zle_iff] at c1 ⊢; have e1 : (100000 : Int32).toInt = 100000 := rfl; have e2 : (11 : Int32).toInt = 11 := rfl; omega), if_pos zn, zl_eq, nn, ← c2, zofs (by omega), zofs (by omega)]
  · have ej := zofn_i (m := j) (by omega)
    have e1 : (100000 : Int32).toInt = 100000 := rfl
    have e2 : (11 : Int32).toInt = 11 := rfl
    rw [j2, if_neg (by rw [zle_iff, ej]; omega), if_neg (by rw [zle_iff, ej]; omega)]
    unfold f12_says_B66 f12_says_B93 f12_says_B191
    rw [if_neg (by rw [zle_iff, ej]; omega), if_pos (zib_ok (by omega) (by omega)), if_pos zn, zl_eq, nn, zofn_n (by omega), ← j3, zofs (by omega), zofs (by omega)]
/-- a sign between two -/
theorem say_two {q : Nat} {v c : Int32} (h : yAt I r e part) (hk : k < e) (hn : n < 100) (hc : I 88 (200 * r + k) = c) (h3 : c = 16 ∨ c = 17 ∨ c = 18) (hv : f12_two c (I 97 n) (I 97 (n + 1)) = some v) :
    ∃ I', f12_says_L16 (q + 1) part (Int32.ofNat (n + 2)) (Int32.ofNat k) I = f12_says_L16 q part (Int32.ofNat (n + 1)) (Int32.ofNat (k + 1)) I' ∧ I' 97 n = v ∧ (∀ j, j ≠ n → I' 97 j = I 97 j) ∧ ∀ b, b ≠ 97 → I' b = I b := by
  have he := h.2.2.2
  have hr := h.2.1
  have ix := yAt_ix h (k := k) (by omega)
  have nx : (((200 : Int32) * (I 81 12)) + Int32.ofNat k).toNatClampNeg = 200 * r + k := by rw [zcl_iff]; omega
  have e2 := zofn_i (m := n + 2) (by omega)
  have e1 := zofn_i (m := n + 1) (by omega)
  have e0 := zofn_i (m := n) (by omega)
  have em : (-1 : Int32).toInt = -1 := rfl
  have a1 : Int32.ofNat (n + 2) + (-1 : Int32) = Int32.ofNat (n + 1) := by
    rw [zeq_iff, zadd (by rw [e2, em]; omega) (by rw [e2, em]; omega), e2, em, e1]
    omega
  have a0 : Int32.ofNat (n + 1) - (1 : Int32) = Int32.ofNat n := by
    rw [zeq_iff, zsub (by rw [e1, z1]; omega) (by rw [e1, z1]; omega), e1, z1, e0]
    omega
  have g : ¬ (100000 : Int32) ≤ c ∧ (11 : Int32) ≤ c ∧ ¬ c = 13 ∧ ¬ c = 19 := by rcases h3 with rfl | rfl | rfl <;> decide
  refine ⟨uI I 97 n v, ?_, uI_at, fun j hj => uI_off hj, fun b hb => uI_ne hb⟩
  rw [f12_says_L16]
  rw [if_pos h.2.2.1.1, h.2.2.1.2, if_neg (by rw [zle_iff, zofn_i (by omega), zofn_i (by omega)]; omega), if_pos (zib_ok (by omega) (by rw [ix]; omega)), nx, hc, zl_eq, if_neg g.1, if_pos g.2.1, if_neg g.2.2.1, if_neg g.2.2.2, a1, a0, if_pos (zib_ok (by omega) (by omega)), if_pos (zib_ok (by omega) (by omega)), zofn_n (by omega), zofn_n (by omega), hv, zb_some, zl_eq]
  unfold f12_says_B191
  rw [zofs (by omega)]
end

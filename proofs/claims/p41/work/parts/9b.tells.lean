/-! pure part: the reference reads stretches off a number -/
/-- a row's first k as a number, and their sum -/
def zfI (row : Nat → Int32) : Nat → Int
  | 0 => 0
  | k + 1 => zfI row k * 10 + (row k).toInt
def zsI (row : Nat → Int32) : Nat → Int
  | 0 => 0
  | k + 1 => zsI row k + (row k).toInt
theorem zfI_eq {r r' : Nat → Int32} : ∀ k, (∀ i, i < k → r i = r' i) → zfI r k = zfI r' k ∧ zsI r k = zsI r' k := by
  intro k
  induction k with
  | zero => intro _; exact ⟨rfl, rfl⟩
  | succ k ih =>
    intro h
    obtain ⟨h1, h2⟩ := ih (fun i hi => h i (by omega))
    rw [zfI, zfI, zsI, zsI, h1, h2, h k (by omega)]
    exact ⟨rfl, rfl⟩
theorem zsI_r {r : Nat → Int32} : ∀ k, (∀ i, i < k → 0 ≤ (r i).toInt ∧ (r i).toInt ≤ 9) → 0 ≤ zsI r k ∧ zsI r k ≤ 9 * k := by
  intro k
  induction k with
  | zero => intro _; simp [zsI]
  | succ k ih =>
    intro h
    have h1 := ih (fun i hi => h i (by omega))
    have h2 := h k (by omega)
    rw [zsI]
    omega
theorem g12_tellL {k49 : Int32 → zMI → Option (Int32 × zMI)} : ∀ (k q : Nat) (l2 l3 l4 : Int32) (J : zMI), k ≤ 4 → l4.toInt = (k : Int) - 1 → 0 ≤ l2.toInt → l2.toInt < 10 ^ k → (0 ≤ l3.toInt ∧ l3.toInt + 9 * k ≤ 100) → k < q →
    ∃ x J', f12_tellsStretches_L12 k49 q l2 l3 l4 J = k49 x J' ∧ x.toInt = l3.toInt + zsI (J' 111) k ∧ (∀ i, i < k → 0 ≤ (J' 111 i).toInt ∧ (J' 111 i).toInt ≤ 9) ∧ zfI (J' 111) k = l2.toInt ∧ (∀ b, b ≠ 111 → J' b = J b) ∧ ∀ i, k ≤ i → J' 111 i = J 111 i := by
  have z10 : (10 : Int32).toInt = 10 := rfl
  intro k
  induction k with
  | zero =>
    intro q l2 l3 l4 J h4 e h0 h1 h3 hq
    obtain ⟨q, rfl⟩ : ∃ p, q = p + 1 := ⟨q - 1, by omega⟩
    refine ⟨l3, J, ?_, by simp [zsI], fun i hi => absurd hi (Nat.not_lt_zero i), ?_, fun _ _ => rfl, fun _ _ => rfl⟩
    · unfold f12_tellsStretches_L12
      rw [if_pos (by rw [zlt_iff, z0]; omega)]
    · rw [zfI]
      simp at h1
      omega
  | succ k ih =>
    intro q l2 l3 l4 J h4 e h0 h1 h3 hq
    obtain ⟨q, rfl⟩ : ∃ p, q = p + 1 := ⟨q - 1, by omega⟩
    have n4 : l4.toNatClampNeg = k := by rw [zcl_iff]; omega
    have d1 : (l2 / 10).toInt = l2.toInt / 10 := by rw [zdiv h0 (by decide), z10]
    have d3 : (l2 - l2 / 10 * 10).toInt = l2.toInt % 10 := by rw [zmod_of h0 (by decide), z10]
    obtain ⟨r, er⟩ : ∃ r, l2 - l2 / 10 * 10 = r := ⟨_, rfl⟩
    obtain ⟨m, em⟩ : ∃ m, l2 / 10 = m := ⟨_, rfl⟩
    rw [er] at d3
    rw [em] at d1 er
    have pe : (10 : Int) ^ (k + 1) = 10 ^ k * 10 := Int.pow_succ _ _
    obtain ⟨y, hy⟩ : ∃ y, l4 + (-1) = y := ⟨_, rfl⟩
    have ed : y.toInt = (k : Int) - 1 := by
      rw [← hy, zadd (by rw [znm1]; omega) (by rw [znm1]; omega), znm1, e]
      omega
    have sr : (l3 + r).toInt = l3.toInt + r.toInt := zadd (by omega) (by omega)
    obtain ⟨x, J', u1, u2, u3, u4, u5, u6⟩ := ih q m (l3 + r) y (uI J 111 k r) (by omega) ed (by omega) (by omega) (by omega) (by omega)
    have ek : J' 111 k = r := by rw [u6 k (Nat.le_refl _), uI_at]
    refine ⟨x, J', ?_, ?_, fun i hi => ?_, ?_, fun b hb => by rw [u5 b hb, uI_ne hb], fun i hi => by rw [u6 i (by omega), uI_off (by omega)]⟩
    · rw [f12_tellsStretches_L12]
      rw [if_neg (by rw [zlt_iff, z0]; omega), if_pos (zib_ok (by omega) (by omega)), em, er, n4, zl_eq, zl_eq, uI_at, hy]
      exact u1
    · rw [u2, zsI, ek, sr]
      omega
    · by_cases c : i = k
      · rw [c, ek, d3]
        omega
      · exact u3 i (by omega)
    · rw [zfI, u4, ek, d1, d3]
      omega
/-- told, or more than nine -/
theorem g12_tell {J : zMI} {c : Nat} {N : Int32} (hc : (J 81 3).toInt = (c : Int)) (c1 : 1 ≤ c) (c5 : c ≤ 5) (h0 : 0 ≤ N.toInt) (h1 : N.toInt < 10 ^ (c - 1)) :
    ∃ x J', f12_tellsStretches N J = some (x, J') ∧ (∀ i, i < c - 1 → 0 ≤ (J' 111 i).toInt ∧ (J' 111 i).toInt ≤ 9) ∧ zfI (J' 111) (c - 1) = N.toInt ∧ (J' 111 (c - 1)).toInt = 9 - zsI (J' 111) (c - 1) ∧ x = (if 9 < zsI (J' 111) (c - 1) then 0 else 1) ∧ ∀ b, b ≠ 111 → J' b = J b := by
  have e2 : (J 81 3 - 2).toInt = ((c - 1 : Nat) : Int) - 1 := by rw [zsub (by rw [z2]; omega) (by rw [z2]; omega), z2]; omega
  obtain ⟨x, J', u1, u2, u3, u4, u5, u6⟩ := g12_tellL (k49 := f12_tellsStretches_B49) (c - 1) zF N 0 (J 81 3 - 2) J (by omega) e2 h0 h1 (by rw [z0]; omega) (by unfold zF; omega)
  rw [z0, Int.zero_add] at u2
  have r := zsI_r (r := J' 111) (c - 1) u3
  have J81 : J' 81 = J 81 := u5 81 (by decide)
  have e1 : (J 81 3 - 1).toInt = (c : Int) - 1 := by rw [zsub (by rw [z1]; omega) (by rw [z1]; omega), z1]; omega
  obtain ⟨y, ey⟩ : ∃ y, J 81 3 - 1 = y := ⟨_, rfl⟩
  rw [ey] at e1
  have ny : y.toNatClampNeg = c - 1 := by rw [zcl_iff]; omega
  have s9 : (9 - x).toInt = 9 - x.toInt := by rw [zsub (by rw [z9]; omega) (by rw [z9]; omega), z9]
  have wi : f12_within y 0 4 = some y := by
    have z4 : (4 : Int32).toInt = 4 := rfl
    unfold f12_within
    rw [zl_eq, if_pos (by rw [zle_iff, z0]; omega), if_pos (by rw [zle_iff, z4]; omega)]
  have rows : ∀ i, i < c - 1 → uI J' 111 (c - 1) (9 - x) 111 i = J' 111 i := fun i hi => uI_off (by omega)
  obtain ⟨q1, q2⟩ := zfI_eq (r := uI J' 111 (c - 1) (9 - x) 111) (r' := J' 111) (c - 1) rows
  refine ⟨if 9 < x then 0 else 1, uI J' 111 (c - 1) (9 - x), ?_, fun i hi => by rw [rows i hi]; exact u3 i hi, by rw [q1]; exact u4, by rw [uI_at, s9, q2, u2], ?_, fun b hb => by rw [uI_ne hb, u5 b hb]⟩
  · unfold f12_tellsStretches
    rw [u1]
    unfold f12_tellsStretches_B49
    rw [J81, ey, wi, zb_some, if_pos (zib_ok (by omega) (by omega)), zl_eq, zl_eq, ny]
    by_cases k : (9 : Int32) < x
    · rw [if_pos k, if_pos (by decide)]
    · rw [if_neg k, if_pos (by decide)]
  · rw [q2, ← u2]
    by_cases k : (9 : Int32) < x
    · rw [if_pos k, if_pos (by rw [zlt_iff, z9] at k; exact k)]
    · rw [if_neg k, if_neg (by rw [zlt_iff, z9] at k; exact k)]

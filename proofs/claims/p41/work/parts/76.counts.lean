/-! pure part: how many, which -/
theorem zdec1 {x : Int32} (h : 1 ≤ x.toInt) : (x + (-1 : Int32)).toInt = x.toInt - 1 := by
  have hr := zrange x
  have h1 := zadd (a := x) (b := -1) (by rw [znm1]; omega) (by rw [znm1]; omega)
  rw [h1, znm1]
  rfl
theorem g12_howManyL {J : zMI} {v P : Int32} (hP : J 81 47 = P) (hP4 : P.toInt < 400) : ∀ (d q : Nat) (l2 l3 : Int32), l3.toInt + d = P.toInt → 0 ≤ l3.toInt → d < q → l2.toInt = (zcnt (J 110) v l3.toInt.toNat : Nat) → ∃ x, f12_howMany_L4 J q v l2 l3 = some x ∧ x.toInt = (zcnt (J 110) v P.toInt.toNat : Nat) := by
  intro d
  induction d with
  | zero =>
    intro q l2 l3 e h0 hq e2
    obtain ⟨q, rfl⟩ : ∃ p, q = p + 1 := ⟨q - 1, by omega⟩
    refine ⟨l2, ?_, ?_⟩
    · unfold f12_howMany_L4
      rw [hP, if_pos (by rw [zle_iff]; omega)]
    · rw [e2, show l3.toInt.toNat = P.toInt.toNat by omega]
  | succ d ih =>
    intro q l2 l3 e h0 hq e2
    obtain ⟨q, rfl⟩ : ∃ p, q = p + 1 := ⟨q - 1, by omega⟩
    have e1 := zsucc e
    have le := zcnt_le (J 110) v l3.toInt.toNat
    have st : zcnt (J 110) v (l3.toInt.toNat + 1) = zcnt (J 110) v l3.toInt.toNat + if J 110 l3.toInt.toNat = v then 1 else 0 := rfl
    have e2' : (l2 + if J 110 l3.toInt.toNat = v then 1 else 0 : Int32).toInt = (zcnt (J 110) v (l3 + 1).toInt.toNat : Nat) := by
      rw [e1, show (l3.toInt + 1).toNat = l3.toInt.toNat + 1 by omega, st]
      by_cases c : J 110 l3.toInt.toNat = v
      · rw [if_pos c, if_pos c, zadd (by rw [z1]; omega) (by rw [z1]; omega), z1, e2]
        omega
      · rw [if_neg c, if_neg c, zadd (by rw [z0]; omega) (by rw [z0]; omega), z0, e2]
        omega
    obtain ⟨x, x1, x2⟩ := ih q _ (l3 + 1) (by omega) (by omega) (by omega) e2'
    refine ⟨x, ?_, x2⟩
    unfold f12_howMany_L4
    rw [hP, if_neg (by rw [zle_iff]; omega), if_pos (zib_ok h0 (by omega)), zcl_iff, zl_eq]
    exact x1
theorem g12_howMany {J : zMI} (v : Int32) (hP : 0 ≤ (J 81 47).toInt ∧ (J 81 47).toInt < 400) : ∃ x, f12_howMany J v = some x ∧ x.toInt = (zcnt (J 110) v (J 81 47).toInt.toNat : Nat) := by
  unfold f12_howMany
  exact g12_howManyL rfl hP.2 (J 81 47).toInt.toNat zF 0 0 (by rw [z0]; omega) (by rw [z0]; omega) (by unfold zF; omega) (by rw [z0]; rfl)
/-- the one that is off as the m-th -/
def zoff (f : Nat → Int32) (P m : Nat) (v : Int32) : Prop := (v.toInt = -1 ∧ zcnz f P ≤ m) ∨ ∃ k : Nat, v.toInt = (k : Int) ∧ k < P ∧ f k ≠ 0 ∧ zcnz f k = m
theorem g12_offNumberL {J : zMI} {P : Int32} {m : Nat} (hP : J 81 47 = P) (hP4 : P.toInt < 400) (hm : m < 1000) : ∀ (d q : Nat) (l2 l3 : Int32), l3.toInt + d = P.toInt → 0 ≤ l3.toInt → d < q → zcnz (J 110) l3.toInt.toNat ≤ m → l2.toInt = (m : Int) - (zcnz (J 110) l3.toInt.toNat : Nat) → ∃ x, f12_offNumber_L4 J q l2 l3 = some x ∧ zoff (J 110) P.toInt.toNat m x := by
  intro d
  induction d with
  | zero =>
    intro q l2 l3 e h0 hq le e2
    obtain ⟨q, rfl⟩ : ∃ p, q = p + 1 := ⟨q - 1, by omega⟩
    refine ⟨-1, ?_, Or.inl ⟨znm1, ?_⟩⟩
    · unfold f12_offNumber_L4
      rw [hP, if_pos (by rw [zle_iff]; omega)]
    · rw [show P.toInt.toNat = l3.toInt.toNat by omega]
      exact le
  | succ d ih =>
    intro q l2 l3 e h0 hq le e2
    obtain ⟨q, rfl⟩ : ∃ p, q = p + 1 := ⟨q - 1, by omega⟩
    have e1 := zsucc e
    have st : zcnz (J 110) (l3.toInt.toNat + 1) = zcnz (J 110) l3.toInt.toNat + if J 110 l3.toInt.toNat = 0 then 0 else 1 := rfl
    have n1 : (l3 + 1).toInt.toNat = l3.toInt.toNat + 1 := by omega
    unfold f12_offNumber_L4 f12_offNumber_B30
    rw [hP, if_neg (by rw [zle_iff]; omega), if_pos (zib_ok h0 (by omega)), zcl_iff]
    by_cases c : J 110 l3.toInt.toNat = 0
    · rw [if_pos c]
      rw [if_pos c] at st
      exact ih q l2 (l3 + 1) (by omega) (by omega) (by omega) (by rw [n1, st]; omega) (by rw [n1, st]; omega)
    · rw [if_neg c]
      rw [if_neg c] at st
      by_cases c2 : l2 = 0
      · rw [if_pos c2]
        rw [c2, z0] at e2
        exact ⟨l3, rfl, Or.inr ⟨l3.toInt.toNat, by omega, by omega, c, by omega⟩⟩
      · rw [if_neg c2]
        rw [zeq_iff, z0] at c2
        have l20 : 1 ≤ l2.toInt := by omega
        have e3 := zdec1 l20
        obtain ⟨y, hy⟩ : ∃ y, l2 + (-1 : Int32) = y := ⟨_, rfl⟩
        rw [hy] at e3 ⊢
        exact ih q y (l3 + 1) (by omega) (by omega) (by omega) (by rw [n1, st]; omega) (by rw [n1, st, e3]; omega)
theorem g12_offNumber {J : zMI} {m : Int32} (hP : 0 ≤ (J 81 47).toInt ∧ (J 81 47).toInt < 400) (hm : 0 ≤ m.toInt ∧ m.toInt < 1000) : ∃ x, f12_offNumber J m = some x ∧ zoff (J 110) (J 81 47).toInt.toNat m.toInt.toNat x := by
  unfold f12_offNumber
  exact g12_offNumberL rfl hP.2 (by omega) (J 81 47).toInt.toNat zF m 0 (by rw [z0]; omega) (by rw [z0]; omega) (by unfold zF; omega) (Nat.zero_le _) (by
    rw [z0]
    show m.toInt = _ - ((0 : Nat) : Int)
    omega)
theorem zoff_one {f : Nat → Int32} {P m : Nat} {v v' : Int32} (h : zoff f P m v) (h' : zoff f P m v') : v = v' := by
  have up : ∀ k k', f k ≠ 0 → k < k' → zcnz f k < zcnz f k' := fun k k' x y => by
    have st : zcnz f (k + 1) = zcnz f k + if f k = 0 then 0 else 1 := rfl
    rw [if_neg x] at st
    have mo := zcnz_mono f (k' - (k + 1)) (k + 1)
    rw [show k + 1 + (k' - (k + 1)) = k' by omega] at mo
    omega
  rw [zeq_iff]
  rcases h with ⟨a1, a2⟩ | ⟨k, a1, a2, a3, a4⟩
  · rcases h' with ⟨b1, b2⟩ | ⟨k', b1, b2, b3, b4⟩
    · omega
    · have := up k' P b3 b2
      omega
  · rcases h' with ⟨b1, b2⟩ | ⟨k', b1, b2, b3, b4⟩
    · have := up k P a3 a2
      omega
    · rcases Nat.lt_trichotomy k k' with x | x | x
      · have := up k k' a3 x
        omega
      · omega
      · have := up k' k b3 x
        omega
/-- some programme is the m-th off, if so many are -/
theorem zoff_ex {f : Nat → Int32} {m : Nat} : ∀ P, m < zcnz f P → ∃ k, k < P ∧ f k ≠ 0 ∧ zcnz f k = m
  | 0, h => absurd h (Nat.not_lt_zero m)
  | P + 1, h => by
    have st : zcnz f (P + 1) = zcnz f P + if f P = 0 then 0 else 1 := rfl
    by_cases c : m < zcnz f P
    · obtain ⟨k, x1, x2⟩ := zoff_ex P c
      exact ⟨k, by omega, x2⟩
    · by_cases c2 : f P = 0
      · rw [if_pos c2] at st
        omega
      · rw [if_neg c2] at st
        exact ⟨P, by omega, c2, by omega⟩
theorem g0_offAt {I J : zMI} {c tm : Int} (hG : zGp I J c tm) {m : Int32} (hm : 0 ≤ m.toInt ∧ m.toInt < 40) : ∃ x, f0_offAt I m = some x ∧ zoff (J 110) (J 81 47).toInt.toNat m.toInt.toNat x := by
  obtain ⟨q1, q2, q3, q4, q5, q6, q7, q8, q9, q10, q11⟩ := hG
  unfold f0_offAt
  rw [if_neg (by rw [zlt_iff, z0]; omega)]
  by_cases c : I 42 8 ≤ m
  · rw [if_pos c, zb_some]
    rw [zle_iff] at c
    exact ⟨-1, rfl, Or.inl ⟨znm1, by omega⟩⟩
  · rw [if_neg c, if_neg (by rw [zle_iff, zn40i]; omega), if_pos (zib_ok hm.1 (by omega)), zb_some, zcl_iff]
    rw [zle_iff] at c
    obtain ⟨k, k1, k2, k3⟩ := zoff_ex (f := J 110) (m := m.toInt.toNat) (J 81 47).toInt.toNat (by omega)
    have := q8 k k1 k2 (by omega)
    rw [k3] at this
    exact ⟨_, rfl, Or.inr ⟨k, this, k1, k2, k3⟩⟩
theorem zGp_P {I J : zMI} {c tm : Int} (hG : zGp I J c tm) (hc : c ≤ 3590) (h0 : ∀ w, w < 5 → 0 ≤ (J 103 w).toInt) : 0 ≤ (J 81 47).toInt ∧ (J 81 47).toInt < 400 := by
  have := hG.2.2.2.1
  have a0 := h0 0 (by decide)
  have a1 := h0 1 (by decide)
  have a2 := h0 2 (by decide)
  have a3 := h0 3 (by decide)
  have a4 := h0 4 (by decide)
  omega
/-- the last that is off -/
theorem g12_lastOffL {J : zMI} (hP : 0 ≤ (J 81 47).toInt ∧ (J 81 47).toInt < 400) : ∀ (d q : Nat) (l1 l2 : Int32), l2.toInt + d = 40 → 0 ≤ l2.toInt → d < q → (l2.toInt = 0 ∧ l1 = -1 ∨ 0 < l2.toInt ∧ (l1 = -1 ∧ zcnz (J 110) (J 81 47).toInt.toNat = 0 ∨ 0 < zcnz (J 110) (J 81 47).toInt.toNat ∧ zoff (J 110) (J 81 47).toInt.toNat (min l2.toInt.toNat (zcnz (J 110) (J 81 47).toInt.toNat) - 1) l1)) →
    ∃ x, f12_lastOff_L4 J q l1 l2 = some x ∧ (x = -1 ∧ zcnz (J 110) (J 81 47).toInt.toNat = 0 ∨ 0 < zcnz (J 110) (J 81 47).toInt.toNat ∧ zoff (J 110) (J 81 47).toInt.toNat (min 40 (zcnz (J 110) (J 81 47).toInt.toNat) - 1) x) := by
  intro d
  induction d with
  | zero =>
    intro q l1 l2 e h0 hq h
    obtain ⟨q, rfl⟩ : ∃ p, q = p + 1 := ⟨q - 1, by omega⟩
    refine ⟨l1, ?_, ?_⟩
    · unfold f12_lastOff_L4
      rw [if_pos (by rw [zle_iff, zn40i]; omega)]
    · rcases h with h | ⟨-, h⟩
      · omega
      · rw [show l2.toInt.toNat = 40 by omega] at h
        exact h
  | succ d ih =>
    intro q l1 l2 e h0 hq h
    obtain ⟨q, rfl⟩ : ∃ p, q = p + 1 := ⟨q - 1, by omega⟩
    have e1 := zsucc (N := 40) (i := l2) (d := d) (by rw [zn40i]; omega)
    obtain ⟨x, x1, x2⟩ := g12_offNumber (m := l2) hP ⟨h0, by omega⟩
    obtain ⟨y, hy⟩ : ∃ y, (if x = (-1 : Int32) then l1 else x) = y := ⟨_, rfl⟩
    have go := ih q y (l2 + 1) (by omega) (by omega) (by omega) (by
      refine Or.inr ⟨by omega, ?_⟩
      rw [← hy]
      rcases x2 with ⟨a1, a2⟩ | ⟨k, a1, a2, a3, a4⟩
      · have xe : x = -1 := by rw [zeq_iff, a1, znm1]
        rw [if_pos xe]
        rcases h with ⟨b1, b2⟩ | ⟨b1, b2⟩
        · exact Or.inl ⟨b2, by omega⟩
        · rcases b2 with b2 | ⟨b2, b3⟩
          · exact Or.inl b2
          · refine Or.inr ⟨b2, ?_⟩
            rw [show min (l2 + 1).toInt.toNat (zcnz (J 110) (J 81 47).toInt.toNat) = min l2.toInt.toNat (zcnz (J 110) (J 81 47).toInt.toNat) by omega]
            exact b3
      · have xe : ¬ x = -1 := fun q => by rw [q, znm1] at a1; omega
        rw [if_neg xe]
        have lt : l2.toInt.toNat < zcnz (J 110) (J 81 47).toInt.toNat := by
          have st : zcnz (J 110) (k + 1) = zcnz (J 110) k + if J 110 k = 0 then 0 else 1 := rfl
          rw [if_neg a3] at st
          have mo := zcnz_mono (J 110) ((J 81 47).toInt.toNat - (k + 1)) (k + 1)
          rw [show k + 1 + ((J 81 47).toInt.toNat - (k + 1)) = (J 81 47).toInt.toNat by omega] at mo
          omega
        refine Or.inr ⟨by omega, ?_⟩
        rw [show min (l2 + 1).toInt.toNat (zcnz (J 110) (J 81 47).toInt.toNat) - 1 = l2.toInt.toNat by omega]
        exact Or.inr ⟨k, a1, a2, a3, a4⟩)
    obtain ⟨z, z1', z2'⟩ := go
    refine ⟨z, ?_, z2'⟩
    unfold f12_lastOff_L4
    rw [if_neg (by rw [zle_iff, zn40i]; omega), x1, zb_some, zl_eq, hy]
    exact z1'
theorem g12_lastOff {J : zMI} (hP : 0 ≤ (J 81 47).toInt ∧ (J 81 47).toInt < 400) : ∃ x, f12_lastOff J = some x ∧ (x = -1 ∧ zcnz (J 110) (J 81 47).toInt.toNat = 0 ∨ 0 < zcnz (J 110) (J 81 47).toInt.toNat ∧ zoff (J 110) (J 81 47).toInt.toNat (min 40 (zcnz (J 110) (J 81 47).toInt.toNat) - 1) x) := by
  unfold f12_lastOff
  exact g12_lastOffL hP 40 zF (-1) 0 (by rw [z0]; rfl) (by rw [z0]; omega) (by unfold zF; omega) (Or.inl ⟨z0, rfl⟩)

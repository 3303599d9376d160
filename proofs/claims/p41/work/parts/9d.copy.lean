/-! pure part: the search for stretches: its small loops -/
theorem g12_tens_all : ∀ k, k < 5 → f12_tens (Int32.ofNat k) = some (Int32.ofNat (10 ^ k)) := by decide +kernel
theorem g12_tens {x : Int32} {k : Nat} (e : x.toInt = (k : Int)) (hk : k < 5) : f12_tens x = some (Int32.ofNat (10 ^ k)) := by
  have : x = Int32.ofNat k := by rw [zeq_iff, e, zofn_i (by omega)]
  rw [this]
  exact g12_tens_all k hk
theorem g12_keepL {k79 : Int32 → Int32 → zMI → Option (Int32 × zMI)} {l1 l2 : Int32} : ∀ (d q : Nat) (l4 : Int32) (J : zMI), l4.toInt + d = 5 → 0 ≤ l4.toInt → d < q →
    ∃ J', f12_findsStretches_L53 k79 q l1 l2 l4 J = k79 l1 l2 J' ∧ (∀ i : Nat, l4.toInt ≤ (i : Int) → i < 5 → J' 112 i = J 111 i) ∧ (∀ i : Nat, (i : Int) < l4.toInt → J' 112 i = J 112 i) ∧ ∀ b, b ≠ 112 → J' b = J b := by
  intro d
  induction d with
  | zero =>
    intro q l4 J e h0 hq
    obtain ⟨q, rfl⟩ : ∃ p, q = p + 1 := ⟨q - 1, by omega⟩
    refine ⟨J, ?_, fun i h1 h2 => by omega, fun _ _ => rfl, fun _ _ => rfl⟩
    unfold f12_findsStretches_L53
    rw [if_pos (by rw [zle_iff, zn5i]; omega)]
  | succ d ih =>
    intro q l4 J e h0 hq
    obtain ⟨q, rfl⟩ : ∃ p, q = p + 1 := ⟨q - 1, by omega⟩
    have es : (l4 + 1).toInt = l4.toInt + 1 := by rw [zadd (by rw [z1]; omega) (by rw [z1]; omega), z1]
    have nl : l4.toNatClampNeg = l4.toInt.toNat := zcl_iff l4
    obtain ⟨J', u1, u2, u3, u4⟩ := ih q (l4 + 1) (uI J 112 l4.toInt.toNat (J 111 l4.toInt.toNat)) (by omega) (by omega) (by omega)
    refine ⟨J', ?_, fun i h1 h2 => ?_, fun i h1 => ?_, fun b hb => by rw [u4 b hb, uI_ne hb]⟩
    · rw [f12_findsStretches_L53]
      rw [if_neg (by rw [zle_iff, zn5i]; omega), if_pos (zib_ok h0 (by omega)), nl, zl_eq]
      exact u1
    · by_cases c : i = l4.toInt.toNat
      · rw [u3 i (by omega), c, uI_at]
      · rw [u2 i (by omega) h2, uI_ne (by decide)]
    · rw [u3 i (by omega), uI_off (by omega)]
theorem g12_giveL {l1 : Int32} : ∀ (d q : Nat) (l2 : Int32) (J : zMI), l2.toInt + d = 5 → 0 ≤ l2.toInt → d < q →
    ∃ J', f12_findsStretches_L87 q l1 l2 J = some (l1, J') ∧ (∀ i : Nat, l2.toInt ≤ (i : Int) → i < 5 → J' 111 i = J 112 i) ∧ (∀ i : Nat, (i : Int) < l2.toInt → J' 111 i = J 111 i) ∧ ∀ b, b ≠ 111 → J' b = J b := by
  intro d
  induction d with
  | zero =>
    intro q l2 J e h0 hq
    obtain ⟨q, rfl⟩ : ∃ p, q = p + 1 := ⟨q - 1, by omega⟩
    refine ⟨J, ?_, fun i h1 h2 => by omega, fun _ _ => rfl, fun _ _ => rfl⟩
    unfold f12_findsStretches_L87
    rw [if_pos (by rw [zle_iff, zn5i]; omega)]
  | succ d ih =>
    intro q l2 J e h0 hq
    obtain ⟨q, rfl⟩ : ∃ p, q = p + 1 := ⟨q - 1, by omega⟩
    have es : (l2 + 1).toInt = l2.toInt + 1 := by rw [zadd (by rw [z1]; omega) (by rw [z1]; omega), z1]
    have nl : l2.toNatClampNeg = l2.toInt.toNat := zcl_iff l2
    obtain ⟨J', u1, u2, u3, u4⟩ := ih q (l2 + 1) (uI J 111 l2.toInt.toNat (J 112 l2.toInt.toNat)) (by omega) (by omega) (by omega)
    refine ⟨J', ?_, fun i h1 h2 => ?_, fun i h1 => ?_, fun b hb => by rw [u4 b hb, uI_ne hb]⟩
    · rw [f12_findsStretches_L87]
      rw [if_neg (by rw [zle_iff, zn5i]; omega), if_pos (zib_ok h0 (by omega)), nl, zl_eq]
      exact u1
    · by_cases c : i = l2.toInt.toNat
      · rw [u3 i (by omega), c, uI_at]
      · rw [u2 i (by omega) h2, uI_ne (by decide)]
    · rw [u3 i (by omega), uI_off (by omega)]

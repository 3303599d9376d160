/-! pure part: the class's next order -/
/-- alike in what the next order looks at -/
def zE5 (I I' : zMI) : Prop := I 32 4 = I' 32 4 ∧ ∀ k, k < 5 → I 55 k = I' 55 k
def zN5 (f : zMI → Option (Int32 × zMI)) : Prop := ∀ I I', zE5 I I' → ∀ v J', f I' = some (v, J') → ∃ J, f I = some (v, J) ∧ zE5 J J' ∧ ∀ b, b ≠ 55 → J b = I b
theorem zE5_up {I I' : zMI} {a : Nat} {x : Int32} (h : zE5 I I') : zE5 (uI I 55 a x) (uI I' 55 a x) := by
  refine ⟨by rw [uI_ne (by decide), uI_ne (by decide)]; exact h.1, fun k hk => ?_⟩
  by_cases c : k = a
  · rw [c, uI_at, uI_at]
  · rw [uI_off c, uI_off c]
    exact h.2 k hk
theorem g11_swap {l1 l2 : Int32} {I I' J' : zMI} (h : zE5 I I') (e : f11_swapInOrder l1 l2 I' = some J') : ∃ J, f11_swapInOrder l1 l2 I = some J ∧ zE5 J J' ∧ ∀ b, b ≠ 55 → J b = I b := by
  unfold f11_swapInOrder at e ⊢
  by_cases c1 : l1 < 0
  · rw [if_pos c1] at e ⊢
    cases e
    exact ⟨I, rfl, h, fun _ _ => rfl⟩
  rw [if_neg c1] at e ⊢
  by_cases c2 : (5 : Int32) ≤ l1
  · rw [if_pos c2] at e ⊢
    cases e
    exact ⟨I, rfl, h, fun _ _ => rfl⟩
  rw [if_neg c2] at e ⊢
  by_cases c3 : l2 < 0
  · rw [if_pos c3] at e ⊢
    cases e
    exact ⟨I, rfl, h, fun _ _ => rfl⟩
  rw [if_neg c3] at e ⊢
  by_cases c4 : (5 : Int32) ≤ l2
  · rw [if_pos c4] at e ⊢
    cases e
    exact ⟨I, rfl, h, fun _ _ => rfl⟩
  rw [if_neg c4] at e ⊢
  by_cases z1' : zib l1 5 = true
  · rw [if_pos z1'] at e ⊢
    by_cases z2' : zib l2 5 = true
    · rw [if_pos z2', zl_eq, zl_eq] at e ⊢
      cases e
      refine ⟨_, rfl, ?_, fun b hb => by rw [uI_ne hb, uI_ne hb]⟩
      rw [h.2 _ (zib_lt z1'), h.2 _ (zib_lt z2')]
      exact zE5_up (zE5_up h)
    · rw [if_neg z2'] at e
      cases e
  · rw [if_neg z1'] at e
    cases e
theorem g11_nextL98 : ∀ (q : Nat) (l4 l5 : Int32), zN5 (f11_nextOrder_L98 q l4 l5) := by
  intro q
  induction q with
  | zero =>
    intro l4 l5 I I' h v J' e
    cases e
  | succ q ih =>
    intro l4 l5 I I' h v J' e
    rw [f11_nextOrder_L98] at e ⊢
    by_cases c : l5 ≤ l4
    · rw [if_pos c] at e ⊢
      cases e
      exact ⟨I, rfl, h, fun _ _ => rfl⟩
    · rw [if_neg c] at e ⊢
      cases o : f11_swapInOrder l4 l5 I' with
      | none =>
        rw [o, zb_none] at e
        cases e
      | some K' =>
        rw [o, zb_some] at e
        obtain ⟨K, k1, k2, k3⟩ := g11_swap h o
        obtain ⟨J, j1, j2, j3⟩ := ih _ _ K K' k2 v J' e
        exact ⟨J, by rw [k1, zb_some]; exact j1, j2, fun b hb => by rw [j3 b hb, k3 b hb]⟩
theorem g11_nextB84 (l1 l2 l3 : Int32) : zN5 (f11_nextOrder_B84 l1 l2 l3) := by
  intro I I' h v J' e
  unfold f11_nextOrder_B84 at e ⊢
  cases o : f11_swapInOrder l2 l3 I' with
  | none =>
    rw [o, zb_none] at e
    cases e
  | some K' =>
    rw [o, zb_some] at e
    obtain ⟨K, k1, k2, k3⟩ := g11_swap h o
    obtain ⟨J, j1, j2, j3⟩ := g11_nextL98 _ _ _ K K' k2 v J' e
    exact ⟨J, by rw [k1, zb_some]; exact j1, j2, fun b hb => by rw [j3 b hb, k3 b hb]⟩
theorem g11_nextL53 {k75 k84 : Int32 → Int32 → Int32 → zMI → Option (Int32 × zMI)} (h75 : ∀ a b c, zN5 (k75 a b c)) (h84 : ∀ a b c, zN5 (k84 a b c)) : ∀ (q : Nat) (l1 l2 l3 : Int32), zN5 (f11_nextOrder_L53 k75 k84 q l1 l2 l3) := by
  intro q
  induction q with
  | zero =>
    intro l1 l2 l3 I I' h v J' e
    cases e
  | succ q ih =>
    intro l1 l2 l3 I I' h v J' e
    rw [f11_nextOrder_L53] at e ⊢
    by_cases c : l3 ≤ l2 + 1
    · rw [if_pos c] at e ⊢
      exact h84 _ _ _ I I' h v J' e
    rw [if_neg c] at e ⊢
    by_cases z1' : zib l3 5 = true
    · rw [if_pos z1'] at e ⊢
      by_cases z2' : zib l2 5 = true
      · rw [if_pos z2'] at e ⊢
        rw [h.2 _ (zib_lt z1'), h.2 _ (zib_lt z2')]
        by_cases c2 : I' 55 l3.toNatClampNeg ≤ I' 55 l2.toNatClampNeg
        · rw [if_pos c2] at e ⊢
          exact ih _ _ _ I I' h v J' e
        · rw [if_neg c2] at e ⊢
          exact h75 _ _ _ I I' h v J' e
      · rw [if_neg z2'] at e
        cases e
    · rw [if_neg z1'] at e
      cases e
theorem g11_nextB45 (l1 l2 : Int32) : zN5 (f11_nextOrder_B45 l1 l2) := by
  intro I I' h v J' e
  unfold f11_nextOrder_B45 at e ⊢
  by_cases c : (0 : Int32) ≤ l2
  · rw [if_pos c] at e ⊢
    exact g11_nextL53 (fun a b c => g11_nextB84 a b c) g11_nextB84 _ _ _ _ I I' h v J' e
  · rw [if_neg c] at e ⊢
    cases e
    exact ⟨I, rfl, h, fun _ _ => rfl⟩
theorem g11_nextL15 {k36 k45 : Int32 → Int32 → zMI → Option (Int32 × zMI)} (h36 : ∀ a b, zN5 (k36 a b)) (h45 : ∀ a b, zN5 (k45 a b)) : ∀ (q : Nat) (l1 l2 : Int32), zN5 (f11_nextOrder_L15 k36 k45 q l1 l2) := by
  intro q
  induction q with
  | zero =>
    intro l1 l2 I I' h v J' e
    cases e
  | succ q ih =>
    intro l1 l2 I I' h v J' e
    rw [f11_nextOrder_L15] at e ⊢
    by_cases c : l2 < 0
    · rw [if_pos c] at e ⊢
      exact h45 _ _ I I' h v J' e
    rw [if_neg c] at e ⊢
    by_cases z1' : zib l2 5 = true
    · rw [if_pos z1'] at e ⊢
      by_cases z2' : zib (l2 + 1) 5 = true
      · rw [if_pos z2'] at e ⊢
        rw [h.2 _ (zib_lt z1'), h.2 _ (zib_lt z2')]
        by_cases c2 : I' 55 (l2 + 1).toNatClampNeg ≤ I' 55 l2.toNatClampNeg
        · rw [if_pos c2] at e ⊢
          exact ih _ _ I I' h v J' e
        · rw [if_neg c2] at e ⊢
          exact h36 _ _ I I' h v J' e
      · rw [if_neg z2'] at e
        cases e
    · rw [if_neg z1'] at e
      cases e
theorem g11_nextE : zN5 f11_nextOrder := by
  intro I I' h v J' e
  unfold f11_nextOrder at e ⊢
  rw [zl_eq, zl_eq] at e ⊢
  rw [h.1]
  exact g11_nextL15 (fun a b => g11_nextB45 a b) g11_nextB45 _ _ _ I I' h v J' e
/-- tried on all orders -/
def zI5 (c N : Nat) : zMI := fun b k => if b = 55 then zprq c N k else if b = 32 then Int32.ofNat c else 0
def zck (c N : Nat) : Bool := Nat.ble (c ^ c) N || !zpb c N || (match f11_nextOrder (zI5 c N) with
  | none => false
  | some p => match znp c (c ^ c - (N + 1)) with
    | none => p.1 == 0
    | some P => p.1 == 1 && (List.range 5).all (fun k => p.2 55 k == zprq c P k))
theorem zck_all : zall (zck 0) 0 0 = true ∧ zall (zck 1) 0 0 = true ∧ zall (zck 2) 2 0 = true ∧ zall (zck 3) 5 0 = true ∧ zall (zck 4) 8 0 = true ∧ zall (zck 5) 12 0 = true := by decide +kernel
theorem zck_ok {c N : Nat} (hc : c ≤ 5) (hN : N < c ^ c) : zck c N = true := by
  obtain ⟨h0, h1, h2, h3, h4, h5⟩ := zck_all
  rcases (show c = 0 ∨ c = 1 ∨ c = 2 ∨ c = 3 ∨ c = 4 ∨ c = 5 by omega) with q | q | q | q | q | q <;> subst q
  · exact zall_ok 0 0 h0 N (Nat.zero_le _) (by omega)
  · exact zall_ok 0 0 h1 N (Nat.zero_le _) (by omega)
  · exact zall_ok 2 0 h2 N (Nat.zero_le _) (by omega)
  · exact zall_ok 5 0 h3 N (Nat.zero_le _) (by omega)
  · exact zall_ok 8 0 h4 N (Nat.zero_le _) (by omega)
  · exact zall_ok 12 0 h5 N (Nat.zero_le _) (by omega)
/-- the class's next order is that of the next number that tells one -/
def zAt (c d : Nat) (v : Int32) (J : zMI) : Prop := match znp c d with
  | none => v = 0
  | some P => v = 1 ∧ ∀ k, k < 5 → J 55 k = zprq c P k
theorem g11_next {c N d : Nat} {I : zMI} (hc : c ≤ 5) (hN : N + (d + 1) = c ^ c) (hp : zpb c N = true) (h4 : I 32 4 = Int32.ofNat c) (h : ∀ k, k < 5 → I 55 k = zprq c N k) : ∃ v J, f11_nextOrder I = some (v, J) ∧ zAt c d v J ∧ ∀ b, b ≠ 55 → J b = I b := by
  have k := zck_ok hc (show N < c ^ c by omega)
  have nb : Nat.ble (c ^ c) N = false := by
    cases e : Nat.ble (c ^ c) N with
    | false => rfl
    | true =>
      have := Nat.le_of_ble_eq_true e
      omega
  unfold zck at k
  rw [hp, nb] at k
  simp only [Bool.not_true, Bool.false_or] at k
  have hE : zE5 I (zI5 c N) := ⟨h4, h⟩
  cases o : f11_nextOrder (zI5 c N) with
  | none =>
    rw [o] at k
    cases k
  | some p =>
    rw [o, show c ^ c - (N + 1) = d by omega] at k
    obtain ⟨J, j1, j2, j3⟩ := g11_nextE I (zI5 c N) hE p.1 p.2 o
    refine ⟨p.1, J, j1, ?_, j3⟩
    unfold zAt
    cases e : znp c d with
    | none =>
      rw [e] at k
      simp only [beq_iff_eq] at k
      exact k
    | some P =>
      rw [e] at k
      simp only [Bool.and_eq_true, beq_iff_eq, List.all_eq_true, List.mem_range] at k
      exact ⟨k.1, fun i hi => by rw [j2.2 i hi]; exact k.2 i hi⟩
/-- an order as digits, both sides -/
theorem zdigits {I M : zMI} {c : Nat} (hc : c ≤ 5) (h4 : (I 32 4).toInt = (c : Int)) (h34 : (M 81 34).toInt = (c : Int)) (h : ∀ k, k < c → I 55 k = M 99 k) : ∀ (d q q' : Nat) (l1 l2 : Int32), l2.toInt + d = (c : Int) → 0 ≤ l2.toInt → d < q → d < q' → ∃ v, f11_orderAsDigits_L4 I q l1 l2 = some v ∧ f12_digitsNow_L4 M q' l1 l2 = some v := by
  intro d
  induction d with
  | zero =>
    intro q q' l1 l2 e h0 hq hq'
    obtain ⟨q, rfl⟩ : ∃ p, q = p + 1 := ⟨q - 1, by omega⟩
    obtain ⟨q', rfl⟩ : ∃ p, q' = p + 1 := ⟨q' - 1, by omega⟩
    refine ⟨l1, ?_, ?_⟩
    · unfold f11_orderAsDigits_L4
      rw [if_pos (by rw [zle_iff]; omega)]
    · unfold f12_digitsNow_L4
      rw [if_pos (by rw [zle_iff]; omega)]
  | succ d ih =>
    intro q q' l1 l2 e h0 hq hq'
    obtain ⟨q, rfl⟩ : ∃ p, q = p + 1 := ⟨q - 1, by omega⟩
    obtain ⟨q', rfl⟩ : ∃ p, q' = p + 1 := ⟨q' - 1, by omega⟩
    have es : (l2 + 1).toInt = l2.toInt + 1 := by rw [zadd (by rw [z1]; omega) (by rw [z1]; omega), z1]
    have nl : l2.toNatClampNeg = l2.toInt.toNat := zcl_iff l2
    obtain ⟨v, v1, v2⟩ := ih q q' (l1 * 10 + I 55 l2.toNatClampNeg + 1) (l2 + 1) (by omega) (by omega) (by omega) (by omega)
    refine ⟨v, ?_, ?_⟩
    · rw [f11_orderAsDigits_L4]
      rw [if_neg (by rw [zle_iff]; omega), if_neg (by rw [zle_iff, zn5i]; omega), if_pos (zib_ok h0 (by omega)), zl_eq]
      exact v1
    · rw [f12_digitsNow_L4]
      rw [if_neg (by rw [zle_iff]; omega), if_pos (zib_ok h0 (by omega)), zl_eq, ← h l2.toNatClampNeg (by omega), Int32.mul_comm]
      exact v2

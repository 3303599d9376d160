/-! pure part: numbers, and how a function is opened -/
theorem zb_some {α β : Type} (a : α) (f : α → Option β) : zb (some a) f = f a := rfl
theorem zb_none {α β : Type} (f : α → Option β) : zb (none : Option α) f = none := rfl
theorem zl_eq {α β : Type} (a : α) (f : α → Option β) : zl a f = f a := rfl
theorem zm_some {β : Type} (a : Nat) (x : Option β) (f : Nat → Option β) : zm (some a) x f = f a := rfl
theorem zm_none {β : Type} (x : Option β) (f : Nat → Option β) : zm none x f = x := rfl
theorem zlt_iff (a b : Int32) : a < b ↔ a.toInt < b.toInt := Int32.lt_iff_toInt_lt
theorem zle_iff (a b : Int32) : a ≤ b ↔ a.toInt ≤ b.toInt := Int32.le_iff_toInt_le
theorem zeq_iff (a b : Int32) : a = b ↔ a.toInt = b.toInt := ⟨fun h => by rw [h], fun h => Int32.toInt_inj.mp h⟩
theorem zcl_iff (a : Int32) : a.toNatClampNeg = a.toInt.toNat := rfl
theorem zrange (a : Int32) : -2147483648 ≤ a.toInt ∧ a.toInt < 2147483648 := ⟨Int32.le_toInt a, Int32.toInt_lt a⟩
theorem zadd {a b : Int32} (h1 : -2147483648 ≤ a.toInt + b.toInt) (h2 : a.toInt + b.toInt < 2147483648) : (a + b).toInt = a.toInt + b.toInt := by
  rw [Int32.toInt_add]
  exact Int.bmod_eq_of_le (by omega) (by omega)
theorem zsub {a b : Int32} (h1 : -2147483648 ≤ a.toInt - b.toInt) (h2 : a.toInt - b.toInt < 2147483648) : (a - b).toInt = a.toInt - b.toInt := by
  rw [Int32.toInt_sub]
  exact Int.bmod_eq_of_le (by omega) (by omega)
theorem zmul {a b : Int32} (h1 : -2147483648 ≤ a.toInt * b.toInt) (h2 : a.toInt * b.toInt < 2147483648) : (a * b).toInt = a.toInt * b.toInt := by
  rw [Int32.toInt_mul]
  exact Int.bmod_eq_of_le (by omega) (by omega)
/-- 1 or 0 -/
def zB (p : Prop) [Decidable p] : Int32 := if p then 1 else 0
theorem zB_bB (p : Prop) [Decidable p] : zbB (zB p) = true := by
  unfold zB
  split <;> rfl
theorem zB_0 (p : Prop) [Decidable p] : (zB p = 0) = ¬ p := by
  unfold zB
  split
  · next h => exact propext ⟨fun e => (by cases e), fun q => absurd h q⟩
  · next h => exact propext ⟨fun _ => h, fun _ => rfl⟩
theorem zib_ok {i : Int32} {N : Nat} (h0 : 0 ≤ i.toInt) (h1 : i.toInt < N) : zib i N = true := by
  unfold zib
  rw [Bool.and_eq_true]
  refine ⟨decide_eq_true ((zle_iff _ _).mpr h0), decide_eq_true ?_⟩
  rw [zcl_iff]
  omega
theorem g12_in (a b c : Int32) : f12_in a b c = some (zB (b.toInt ≤ a.toInt ∧ a.toInt ≤ c.toInt)) := by
  unfold f12_in
  have e : (if a < b then (0 : Int32) else if c < a then 0 else 1) = zB (b.toInt ≤ a.toInt ∧ a.toInt ≤ c.toInt) := by
    simp only [zlt_iff]
    unfold zB
    split
    · rw [if_neg (by omega)]
    · split
      · rw [if_neg (by omega)]
      · rw [if_pos (by omega)]
  rw [zl_eq, e, if_pos (zB_bB _)]
theorem g12_isHeap (h : Int32) : f12_isHeap h = some (zB (0 ≤ h.toInt ∧ h.toInt ≤ 8)) := by
  unfold f12_isHeap
  rw [g12_in, zb_some, if_pos (zB_bB _)]
  rfl
theorem g11_noHeap (h : Int32) : f11_noHeap h = some (zB (¬ (0 ≤ h.toInt ∧ h.toInt ≤ 8))) := by
  unfold f11_noHeap
  have e : (if h < (0 : Int32) then (1 : Int32) else if h < 9 then 0 else 1) = zB (¬ (0 ≤ h.toInt ∧ h.toInt ≤ 8)) := by
    simp only [zlt_iff]
    have e0 : (0 : Int32).toInt = 0 := rfl
    have e9 : (9 : Int32).toInt = 9 := rfl
    rw [e0, e9]
    unfold zB
    split
    · rw [if_pos (by omega)]
    · split
      · rw [if_neg (by omega)]
      · rw [if_pos (by omega)]
  rw [zl_eq, e, if_pos (zB_bB _)]

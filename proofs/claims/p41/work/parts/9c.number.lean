/-! pure part: sharings and their numbers -/
def zNn (st : Nat → Nat) : Nat → Int
  | 0 => 0
  | k + 1 => zNn st k * 10 + (st (k + 1) - st k : Nat)
section
variable {F : Nat → Nat → Int} {c : Nat} {m : Int} {st st' : Nat → Nat} {row : Nat → Int32}
theorem zNn_inj (h : zst' c st) (h' : zst' c st') (h0 : st 0 = st' 0) : ∀ k, k ≤ c → zNn st k = zNn st' k → ∀ i, i ≤ k → st i = st' i := by
  intro k
  induction k with
  | zero => intro _ _ i hi; rw [show i = 0 by omega, h0]
  | succ k ih =>
    intro hk e i hi
    rw [zNn, zNn] at e
    obtain ⟨a1, a2⟩ := h k (by omega)
    obtain ⟨b1, b2⟩ := h' k (by omega)
    have e1 : zNn st k = zNn st' k := by omega
    have q := ih (by omega) e1
    by_cases x : i = k + 1
    · have := q k (Nat.le_refl _)
      rw [x]
      omega
    · exact q i (by omega)
theorem zNn_zat (hst : zst' c st) (h00 : st 0 = 0) (h9 : st c = 9) (hb : zmo F st c 0 0 ≤ m) : ∀ k, k ≤ c → (∀ i, i ≤ k → st i = zat F c m i) ∨ zNn (zat F c m) k < zNn st k := by
  intro k
  induction k with
  | zero =>
    intro _
    refine Or.inl (fun i hi => ?_)
    rw [show i = 0 by omega, h00]
    rfl
  | succ k ih =>
    intro hk
    obtain ⟨a1, a2⟩ := hst k (by omega)
    obtain ⟨b1, b2⟩ := zat_st (F := F) (c := c) (m := m) k (by omega)
    rw [zNn, zNn]
    rcases ih (by omega) with q | q
    · have qk := q k (Nat.le_refl _)
      have f1 := zat_first (F := F) hst h9 hb k (by omega) qk
      have eN : zNn st k = zNn (zat F c m) k := by
        have : ∀ j, j ≤ k → zNn st j = zNn (zat F c m) j := by
          intro j
          induction j with
          | zero => intro _; rfl
          | succ j ihj =>
            intro hj
            rw [zNn, zNn, ihj (by omega), q j (by omega), q (j + 1) hj]
        exact this k (Nat.le_refl _)
      by_cases x : st (k + 1) = zat F c m (k + 1)
      · refine Or.inl (fun i hi => ?_)
        by_cases y : i = k + 1
        · rw [y, x]
        · exact q i (by omega)
      · refine Or.inr ?_
        rw [eN]
        omega
    · refine Or.inr ?_
      omega
theorem zfI_dig (hst : zst' c st) : ∀ k, k ≤ c → (∀ i, i < k → 0 ≤ (row i).toInt ∧ (row i).toInt ≤ 9) → zfI row k = zNn st k → (∀ i, i < k → (row i).toInt = (st (i + 1) - st i : Nat)) ∧ zsI row k = (st k : Int) - st 0 := by
  intro k
  induction k with
  | zero => intro _ _ _; exact ⟨fun i hi => absurd hi (Nat.not_lt_zero i), by rw [zsI]; omega⟩
  | succ k ih =>
    intro hk hr e
    rw [zfI, zNn] at e
    have r := hr k (by omega)
    obtain ⟨a1, a2⟩ := hst k (by omega)
    obtain ⟨q1, q2⟩ := ih (by omega) (fun i hi => hr i (by omega)) (by omega)
    have ek : (row k).toInt = (st (k + 1) - st k : Nat) := by omega
    refine ⟨fun i hi => ?_, ?_⟩
    · by_cases x : i = k
      · rw [x]; exact ek
      · exact q1 i (by omega)
    · rw [zsI, q2]
      omega
/-- a sharing out of a row of digits -/
theorem zsh_of (c1 : 1 ≤ c) (hr : ∀ i, i < c - 1 → 0 ≤ (row i).toInt ∧ (row i).toInt ≤ 9) (h9 : zsI row (c - 1) ≤ 9) (hl : (row (c - 1)).toInt = 9 - zsI row (c - 1)) : ∃ st, zst' c st ∧ st 0 = 0 ∧ st c = 9 ∧ zgv c st row ∧ zNn st (c - 1) = zfI row (c - 1) := by
  have up : ∀ j, j ≤ c - 1 → 0 ≤ zsI row j ∧ ∀ i, i ≤ j → zsI row i ≤ zsI row j := by
    intro j
    induction j with
    | zero => intro _; exact ⟨Int.le_refl _, fun i hi => by rw [show i = 0 by omega]; exact Int.le_refl _⟩
    | succ j ih =>
      intro hj
      obtain ⟨q1, q2⟩ := ih (by omega)
      have r := hr j (by omega)
      rw [zsI]
      refine ⟨by omega, fun i hi => ?_⟩
      by_cases x : i = j + 1
      · rw [x, zsI]
        exact Int.le_refl _
      · have := q2 i (by omega)
        omega
  have lo : ∀ w, w < c → (if w < c then (zsI row w).toNat else 9) = (zsI row w).toNat := fun w hw => if_pos hw
  have hi' : (if c < c then (zsI row c).toNat else 9) = 9 := if_neg (by omega)
  have le9 : ∀ w, w < c → zsI row w ≤ 9 ∧ 0 ≤ zsI row w := fun w hw => by
    have := (up (c - 1) (Nat.le_refl _)).2 w (by omega)
    have := (up w (by omega)).1
    omega
  have last : ∀ w, w < c → ¬ w + 1 < c → w = c - 1 := fun w _ _ => by omega
  refine ⟨fun w => if w < c then (zsI row w).toNat else 9, fun w hw => ?_, ?_, hi', fun w hw => ?_, ?_⟩
  · have l := le9 w hw
    try dsimp only
    rw [if_pos hw]
    by_cases x : w + 1 < c
    · have l1 := le9 (w + 1) x
      have u := (up (w + 1) (by omega)).2 w (by omega)
      rw [if_pos x]
      omega
    · rw [if_neg x]
      omega
  · dsimp only
    rw [if_pos (by omega)]
    rfl
  · have l := le9 w hw
    try dsimp only
    rw [if_pos hw]
    by_cases x : w + 1 < c
    · have l1 := le9 (w + 1) x
      have r := hr w (by omega)
      rw [if_pos x]
      rw [zsI] at l1 ⊢
      omega
    · have ew := last w hw x
      rw [if_neg x, ew, hl]
      rw [ew] at l
      omega
  · have : ∀ j, j ≤ c - 1 → zNn (fun w => if w < c then (zsI row w).toNat else 9) j = zfI row j := by
      intro j
      induction j with
      | zero => intro _; rfl
      | succ j ih =>
        intro hj
        have l := le9 j (by omega)
        have l1 := le9 (j + 1) (by omega)
        have r := hr j (by omega)
        rw [zNn, zfI, ih (by omega)]
        try dsimp only
        rw [if_pos (show j + 1 < c by omega), if_pos (show j < c by omega)]
        rw [zsI] at l1 ⊢
        omega
    exact this _ (Nat.le_refl _)
end
